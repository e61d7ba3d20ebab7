theorem d_Mo_standing_0 : decode c0_Mo_standing 0 = .ok (.iconst 0, 1) := by decide +kernel
theorem d_Mo_standing_1 : decode c0_Mo_standing 1 = .ok (.istore_n 1, 1) := by decide +kernel
theorem d_Mo_standing_2 : decode c0_Mo_standing 2 = .ok (.iconst 0, 1) := by decide +kernel
theorem d_Mo_standing_3 : decode c0_Mo_standing 3 = .ok (.istore_n 2, 1) := by decide +kernel
theorem d_Mo_standing_4 : decode c0_Mo_standing 4 = .ok (.iload_n 2, 1) := by decide +kernel
theorem d_Mo_standing_5 : decode c0_Mo_standing 5 = .ok (.aload_n 0, 1) := by decide +kernel
theorem d_Mo_standing_6 : decode c0_Mo_standing 6 = .ok (.getfield 20, 3) := by decide +kernel
theorem d_Mo_standing_9 : decode c0_Mo_standing 9 = .ok (.if_icmp .ge 27, 3) := by decide +kernel
theorem d_Mo_standing_12 : decode c0_Mo_standing 12 = .ok (.aload_n 0, 1) := by decide +kernel
theorem d_Mo_standing_13 : decode c0_Mo_standing 13 = .ok (.getfield 30, 3) := by decide +kernel
theorem d_Mo_standing_16 : decode c0_Mo_standing 16 = .ok (.iload_n 2, 1) := by decide +kernel
theorem d_Mo_standing_17 : decode c0_Mo_standing 17 = .ok (.iaload, 1) := by decide +kernel
theorem d_Mo_standing_18 : decode c0_Mo_standing 18 = .ok (.iconst (-1), 1) := by decide +kernel
theorem d_Mo_standing_19 : decode c0_Mo_standing 19 = .ok (.if_icmp .ne 9, 3) := by decide +kernel
theorem d_Mo_standing_22 : decode c0_Mo_standing 22 = .ok (.iload_n 1, 1) := by decide +kernel
theorem d_Mo_standing_23 : decode c0_Mo_standing 23 = .ok (.iconst 1, 1) := by decide +kernel
theorem d_Mo_standing_24 : decode c0_Mo_standing 24 = .ok (.iadd, 1) := by decide +kernel
theorem d_Mo_standing_25 : decode c0_Mo_standing 25 = .ok (.goto 4, 3) := by decide +kernel
theorem d_Mo_standing_28 : decode c0_Mo_standing 28 = .ok (.iload_n 1, 1) := by decide +kernel
theorem d_Mo_standing_29 : decode c0_Mo_standing 29 = .ok (.istore_n 1, 1) := by decide +kernel
theorem d_Mo_standing_30 : decode c0_Mo_standing 30 = .ok (.iinc 2 1, 3) := by decide +kernel
theorem d_Mo_standing_33 : decode c0_Mo_standing 33 = .ok (.goto (-29), 3) := by decide +kernel
theorem d_Mo_standing_36 : decode c0_Mo_standing 36 = .ok (.iload_n 1, 1) := by decide +kernel
theorem d_Mo_standing_37 : decode c0_Mo_standing 37 = .ok (.ireturn, 1) := by decide +kernel
def b_Mo_standing_29 (K : Nat → ClassId) (N : Nat) (k4 : Int32 → Int32 → fh_H → Option (Int32 × fh_H)) (o : Nat) (v2 : Int32) (w0 : Int32) (h : fh_H) : Option (Int32 × fh_H) :=
  (some (v2 + 1)).bind fun x1 => k4 w0 x1 h
def b_Mo_standing_4 (K : Nat → ClassId) (N : Nat) (k4 : Int32 → Int32 → fh_H → Option (Int32 × fh_H)) (o : Nat) (v1 : Int32) (v2 : Int32) (h : fh_H) : Option (Int32 × fh_H) :=
  (fg_i h (some o) 6 4).bind fun x1 => if x1 ≤ v2 then (some (v1, h)) else ((fg_a h (some o) 6 7).bind fun x2 => (fa_i (K 0) h x2 v2).bind fun x3 => if x3 = (-1) then (b_Mo_standing_29 K N k4 o v2 (v1 + 1) h) else (b_Mo_standing_29 K N k4 o v2 v1 h))
def l_Mo_standing_4 (K : Nat → ClassId) (N : Nat) (o : Nat) : Nat → Int32 → Int32 → fh_H → Option (Int32 × fh_H)
  | 0, _, _, _ => none
  | n + 1, v1, v2, h => b_Mo_standing_4 K N (l_Mo_standing_4 K N o n) o v1 v2 h
def f_Mo_standing (K : Nat → ClassId) (N : Nat) (o : Nat)  (h0 : fh_H) : Option (Int32 × fh_H) :=
  l_Mo_standing_4 K N o N 0 0 h0
set_option maxHeartbeats 4000000 in
set_option maxRecDepth 100000 in
theorem c_Mo_standing {l : Launch} {D : va_G} {K : Nat → ClassId} {t : Nat → Nat} {N : Nat} {o : Nat}  {h0 : fh_H} {res : Int32 × fh_H} (hf : f_Mo_standing K N o  h0 = some res) : fC l D K t y_Mo_standing c0_Mo_standing 3 (some .int) rm_Mo_standing [.ref o] h0 (some (.int res.1)) res.2 := by
  refine fh_body (by decide) (Nat.le_of_ble_eq_true rfl) ?_
  intro p e s m below meth c A ls S hr hk hnm hE hAe hI hl
  obtain ⟨hx, hb, hml, hown, hts⟩ := id S
  have hl : lv_has ls 3 [(0, va_rf (some o))] := hl
  have L4 : ∀ (n4 : Nat) (v1 : Int32) (v2 : Int32) (h : fh_H) (H : Heap) (locs : List Loc) (ls : Array Slot), lv_has ls 3 [(0, va_rf (some o)), (1, .int v1), (2, .int v2)] → fh_I D classes A s.heap h H locs → l_Mo_standing_4 K N o n4 v1 v2 h = some res → W p l e rm_Mo_standing s m [.ref o].toArray below meth c H locs 0 0 (MQ below (fh_Q D classes h0 s.heap.size (some (.int res.1)) res.2) [.ref o].toArray s 0 0 A) (F0 m 4 ls []) := by
    intro n4
    induction n4 with
    | zero =>
      intro v1 v2 h H locs ls hl hI hf
      exact fh_no hf
    | succ n4 ih4 =>
      have B29 : ∀ (v2 : Int32) (w0 : Int32) (h : fh_H) (H : Heap) (locs : List Loc) (ls : Array Slot), lv_has ls 3 [(0, va_rf (some o)), (2, .int v2)] → fh_I D classes A s.heap h H locs → b_Mo_standing_29 K N (l_Mo_standing_4 K N o n4) o v2 w0 h = some res → W p l e rm_Mo_standing s m [.ref o].toArray below meth c H locs 0 0 (MQ below (fh_Q D classes h0 s.heap.size (some (.int res.1)) res.2) [.ref o].toArray s 0 0 A) (F0 m 29 ls [.int w0]) := by
        intro v2 w0 h H locs ls hl hI hf
        unfold b_Mo_standing_29 at hf
        refine lv_istore_n (lv' := [(1, .int w0), (0, va_rf (some o)), (2, .int v2)]) hx hb d_Mo_standing_29 rfl hl (by decide) rfl (fun ls hl => ?_)
        obtain ⟨x1, e_x1, hf⟩ := fh_b hf
        refine lv_iinc (v := x1) (lv' := [(2, .int x1), (1, .int w0), (0, va_rf (some o))]) hx hb d_Mo_standing_30 hl (k := 2) rfl (by rw [fh_qe e_x1]; rfl) (by decide) rfl (fun ls hl => ?_)
        refine lv_goto (tgt := 4) hx hb d_Mo_standing_33 (by decide) ?_
        exact ih4 w0 x1 h _ _ _ (lv_sub hl [2, 1, 0] rfl) hI hf
      intro v1 v2 h H locs ls hl hI hf
      have hf : b_Mo_standing_4 K N (l_Mo_standing_4 K N o n4) o v1 v2 h = some res := hf
      unfold b_Mo_standing_4 at hf
      refine lv_iload_n hx hb d_Mo_standing_4 rfl (lv_at hl 2 rfl) ?_
      refine fh_aload_n S d_Mo_standing_5 rfl (lv_at hl 0 rfl) ?_
      obtain ⟨x1, e_x1, hf⟩ := fh_b hf
      refine fh_geti S hE.1 hI e_x1 (hc := rfl) (hin := in_6) (by decide) (hts _ k_168) d_Mo_standing_6 ?_
      refine lv_icmp_ge (tgt := 36) hx hb d_Mo_standing_9 (by decide) (fun c_9 => ?_) (fun c_9 => ?_)
      · replace hf := fh_t c_9 hf
        refine lv_iload_n hx hb d_Mo_standing_36 rfl (lv_at hl 1 rfl) ?_
        obtain rfl := Option.some.inj hf
        exact fh_iret S hr hk rfl hAe hI d_Mo_standing_37
      · replace hf := fh_f c_9 hf
        refine fh_aload_n S d_Mo_standing_12 rfl (lv_at hl 0 rfl) ?_
        obtain ⟨x2, e_x2, hf⟩ := fh_b hf
        refine fh_geta S hE.1 hI e_x2 (hc := rfl) (hin := in_6) (by decide) (hts _ k_162) d_Mo_standing_13 ?_
        refine lv_iload_n hx hb d_Mo_standing_16 rfl (lv_at hl 2 rfl) ?_
        obtain ⟨x3, e_x3, hf⟩ := fh_b hf
        refine fh_iald S hE.1 hI 0 rfl e_x3 d_Mo_standing_17 ?_
        refine lv_iconst (v := (-1)) hx hb d_Mo_standing_18 (by decide) ?_
        refine lv_icmp_ne (tgt := 28) hx hb d_Mo_standing_19 (by decide) (fun c_19 => ?_) (fun c_19 => ?_)
        · replace hf := fh_f c_19 hf
          refine lv_iload_n hx hb d_Mo_standing_28 rfl (lv_at hl 1 rfl) ?_
          exact B29 v2 v1 h _ _ _ (lv_sub hl [0, 2] rfl) hI hf
        · replace hf := fh_t c_19 hf
          refine lv_iload_n hx hb d_Mo_standing_22 rfl (lv_at hl 1 rfl) ?_
          refine lv_iconst (v := 1) hx hb d_Mo_standing_23 (by decide) ?_
          refine lv_iadd hx hb d_Mo_standing_24 ?_
          refine lv_goto (tgt := 29) hx hb d_Mo_standing_25 (by decide) ?_
          exact B29 v2 (v1 + 1) h _ _ _ (lv_sub hl [0, 2] rfl) hI hf
  unfold f_Mo_standing at hf
  refine lv_iconst (v := 0) hx hb d_Mo_standing_0 (by decide) ?_
  refine lv_istore_n (lv' := [(1, .int 0), (0, va_rf (some o))]) hx hb d_Mo_standing_1 rfl hl (by decide) rfl (fun ls hl => ?_)
  refine lv_iconst (v := 0) hx hb d_Mo_standing_2 (by decide) ?_
  refine lv_istore_n (lv' := [(2, .int 0), (1, .int 0), (0, va_rf (some o))]) hx hb d_Mo_standing_3 rfl hl (by decide) rfl (fun ls hl => ?_)
  exact L4 N 0 0 h0 _ _ _ (lv_sub hl [2, 1, 0] rfl) hI hf
theorem d_Mo_clear_0 : decode c0_Mo_clear 0 = .ok (.aload_n 0, 1) := by decide +kernel
theorem d_Mo_clear_1 : decode c0_Mo_clear 1 = .ok (.getfield 131, 3) := by decide +kernel
theorem d_Mo_clear_4 : decode c0_Mo_clear 4 = .ok (.istore_n 1, 1) := by decide +kernel
theorem d_Mo_clear_5 : decode c0_Mo_clear 5 = .ok (.aload_n 0, 1) := by decide +kernel
theorem d_Mo_clear_6 : decode c0_Mo_clear 6 = .ok (.iconst 0, 1) := by decide +kernel
theorem d_Mo_clear_7 : decode c0_Mo_clear 7 = .ok (.putfield 131, 3) := by decide +kernel
theorem d_Mo_clear_10 : decode c0_Mo_clear 10 = .ok (.aload_n 0, 1) := by decide +kernel
theorem d_Mo_clear_11 : decode c0_Mo_clear 11 = .ok (.invokevirtual 46, 3) := by decide +kernel
theorem d_Mo_clear_14 : decode c0_Mo_clear 14 = .ok (.iload_n 1, 1) := by decide +kernel
theorem d_Mo_clear_15 : decode c0_Mo_clear 15 = .ok (.ireturn, 1) := by decide +kernel
def f_Mo_clear (K : Nat → ClassId) (N : Nat) (o : Nat)  (h0 : fh_H) : Option (Int32 × fh_H) :=
  (fg_i h0 (some o) 6 0).bind fun x1 => (fp_v h0 (some o) 6 0 (.int 0)).bind fun h2 => (fg_o h2 (some o) 6).bind fun o3 => (f_Mo_drawAll K N o3 h2).bind fun r4 => some (x1, r4)
set_option maxHeartbeats 4000000 in
set_option maxRecDepth 100000 in
theorem c_Mo_clear {l : Launch} {D : va_G} {K : Nat → ClassId} {t : Nat → Nat} {N : Nat} {o : Nat}  {h0 : fh_H} {res : Int32 × fh_H} (hf : f_Mo_clear K N o  h0 = some res) : fC l D K t y_Mo_clear c0_Mo_clear 2 (some .int) rm_Mo_clear [.ref o] h0 (some (.int res.1)) res.2 := by
  refine fh_body (by decide) (Nat.le_of_ble_eq_true rfl) ?_
  intro p e s m below meth c A ls S hr hk hnm hE hAe hI hl
  obtain ⟨hx, hb, hml, hown, hts⟩ := id S
  have hl : lv_has ls 2 [(0, va_rf (some o))] := hl
  unfold f_Mo_clear at hf
  refine fh_aload_n S d_Mo_clear_0 rfl (lv_at hl 0 rfl) ?_
  obtain ⟨x1, e_x1, hf⟩ := fh_b hf
  refine fh_geti S hE.1 hI e_x1 (hc := rfl) (hin := in_6) (by decide) (hts _ k_163) d_Mo_clear_1 ?_
  refine lv_istore_n (lv' := [(1, .int x1), (0, va_rf (some o))]) hx hb d_Mo_clear_4 rfl hl (by decide) rfl (fun ls hl => ?_)
  refine fh_aload_n S d_Mo_clear_5 rfl (lv_at hl 1 rfl) ?_
  refine lv_iconst (v := 0) hx hb d_Mo_clear_6 (by decide) ?_
  obtain ⟨h2, e_h2, hf⟩ := fh_b hf
  refine fh_putv S hE.1 hI e_h2 (hc := rfl) (hin := in_6) tok_6 nok_6 (by decide) (hts _ k_163) rfl rfl rfl d_Mo_clear_7 (fun H locs hI => ?_)
  refine fh_aload_n S d_Mo_clear_10 rfl (lv_at hl 1 rfl) ?_
  obtain ⟨o3, e_o3, hf⟩ := fh_b hf
  obtain ⟨r4, e_r4, hf⟩ := fh_b hf
  refine fh_callV (As := []) (rest := []) S fT_good hE hI e_o3 rfl (c_Mo_drawAll e_r4) fy_Mo_drawAll fst_Mo_drawAll k_170 ⟨rfl, rfl⟩ ⟨Nat.le_of_ble_eq_true rfl, Nat.le_of_ble_eq_true rfl⟩ ⟨Nat.zero_le _, Nat.zero_le _⟩ rfl hl.1 rfl (Nat.le_of_ble_eq_true rfl) d_Mo_clear_11 (fun H locs hI => ?_)
  refine lv_iload_n hx hb d_Mo_clear_14 rfl (lv_at hl 0 rfl) ?_
  obtain rfl := Option.some.inj hf
  exact fh_iret S hr hk rfl hAe hI d_Mo_clear_15
theorem d_Mo_areThere_0 : decode c0_Mo_areThere 0 = .ok (.iload_n 0, 1) := by decide +kernel
theorem d_Mo_areThere_1 : decode c0_Mo_areThere 1 = .ok (.invokestatic 141, 3) := by decide +kernel
theorem d_Mo_areThere_4 : decode c0_Mo_areThere 4 = .ok (.istore 6, 2) := by decide +kernel
theorem d_Mo_areThere_6 : decode c0_Mo_areThere 6 = .ok (.iload 6, 2) := by decide +kernel
theorem d_Mo_areThere_8 : decode c0_Mo_areThere 8 = .ok (.iconst 1, 1) := by decide +kernel
theorem d_Mo_areThere_9 : decode c0_Mo_areThere 9 = .ok (.if_icmp .lt 15, 3) := by decide +kernel
theorem d_Mo_areThere_12 : decode c0_Mo_areThere 12 = .ok (.iload_n 1, 1) := by decide +kernel
theorem d_Mo_areThere_13 : decode c0_Mo_areThere 13 = .ok (.iconst 0, 1) := by decide +kernel
theorem d_Mo_areThere_14 : decode c0_Mo_areThere 14 = .ok (.iload 5, 2) := by decide +kernel
theorem d_Mo_areThere_16 : decode c0_Mo_areThere 16 = .ok (.iconst 1, 1) := by decide +kernel
theorem d_Mo_areThere_17 : decode c0_Mo_areThere 17 = .ok (.isub, 1) := by decide +kernel
theorem d_Mo_areThere_18 : decode c0_Mo_areThere 18 = .ok (.invokestatic 145, 3) := by decide +kernel
theorem d_Mo_areThere_21 : decode c0_Mo_areThere 21 = .ok (.ifCond .eq 62, 3) := by decide +kernel
theorem d_Mo_areThere_24 : decode c0_Mo_areThere 24 = .ok (.iload 6, 2) := by decide +kernel
theorem d_Mo_areThere_26 : decode c0_Mo_areThere 26 = .ok (.iconst 2, 1) := by decide +kernel
theorem d_Mo_areThere_27 : decode c0_Mo_areThere 27 = .ok (.if_icmp .lt 15, 3) := by decide +kernel
theorem d_Mo_areThere_30 : decode c0_Mo_areThere 30 = .ok (.iload_n 2, 1) := by decide +kernel
theorem d_Mo_areThere_31 : decode c0_Mo_areThere 31 = .ok (.iconst 0, 1) := by decide +kernel
theorem d_Mo_areThere_32 : decode c0_Mo_areThere 32 = .ok (.iload 5, 2) := by decide +kernel
theorem d_Mo_areThere_34 : decode c0_Mo_areThere 34 = .ok (.iconst 1, 1) := by decide +kernel
theorem d_Mo_areThere_35 : decode c0_Mo_areThere 35 = .ok (.isub, 1) := by decide +kernel
theorem d_Mo_areThere_36 : decode c0_Mo_areThere 36 = .ok (.invokestatic 145, 3) := by decide +kernel
theorem d_Mo_areThere_39 : decode c0_Mo_areThere 39 = .ok (.ifCond .eq 44, 3) := by decide +kernel
theorem d_Mo_areThere_42 : decode c0_Mo_areThere 42 = .ok (.iload 6, 2) := by decide +kernel
theorem d_Mo_areThere_44 : decode c0_Mo_areThere 44 = .ok (.iconst 3, 1) := by decide +kernel
theorem d_Mo_areThere_45 : decode c0_Mo_areThere 45 = .ok (.if_icmp .lt 15, 3) := by decide +kernel
theorem d_Mo_areThere_48 : decode c0_Mo_areThere 48 = .ok (.iload_n 3, 1) := by decide +kernel
theorem d_Mo_areThere_49 : decode c0_Mo_areThere 49 = .ok (.iconst 0, 1) := by decide +kernel
theorem d_Mo_areThere_50 : decode c0_Mo_areThere 50 = .ok (.iload 5, 2) := by decide +kernel
theorem d_Mo_areThere_52 : decode c0_Mo_areThere 52 = .ok (.iconst 1, 1) := by decide +kernel
theorem d_Mo_areThere_53 : decode c0_Mo_areThere 53 = .ok (.isub, 1) := by decide +kernel
theorem d_Mo_areThere_54 : decode c0_Mo_areThere 54 = .ok (.invokestatic 145, 3) := by decide +kernel
theorem d_Mo_areThere_57 : decode c0_Mo_areThere 57 = .ok (.ifCond .eq 26, 3) := by decide +kernel
theorem d_Mo_areThere_60 : decode c0_Mo_areThere 60 = .ok (.iload 6, 2) := by decide +kernel
theorem d_Mo_areThere_62 : decode c0_Mo_areThere 62 = .ok (.iconst 4, 1) := by decide +kernel
theorem d_Mo_areThere_63 : decode c0_Mo_areThere 63 = .ok (.if_icmp .lt 16, 3) := by decide +kernel
theorem d_Mo_areThere_66 : decode c0_Mo_areThere 66 = .ok (.iload 4, 2) := by decide +kernel
theorem d_Mo_areThere_68 : decode c0_Mo_areThere 68 = .ok (.iconst 0, 1) := by decide +kernel
theorem d_Mo_areThere_69 : decode c0_Mo_areThere 69 = .ok (.iload 5, 2) := by decide +kernel
theorem d_Mo_areThere_71 : decode c0_Mo_areThere 71 = .ok (.iconst 1, 1) := by decide +kernel
theorem d_Mo_areThere_72 : decode c0_Mo_areThere 72 = .ok (.isub, 1) := by decide +kernel
theorem d_Mo_areThere_73 : decode c0_Mo_areThere 73 = .ok (.invokestatic 145, 3) := by decide +kernel
theorem d_Mo_areThere_76 : decode c0_Mo_areThere 76 = .ok (.ifCond .eq 7, 3) := by decide +kernel
theorem d_Mo_areThere_79 : decode c0_Mo_areThere 79 = .ok (.iconst 1, 1) := by decide +kernel
theorem d_Mo_areThere_80 : decode c0_Mo_areThere 80 = .ok (.goto 4, 3) := by decide +kernel
theorem d_Mo_areThere_83 : decode c0_Mo_areThere 83 = .ok (.iconst 0, 1) := by decide +kernel
theorem d_Mo_areThere_84 : decode c0_Mo_areThere 84 = .ok (.ireturn, 1) := by decide +kernel
def b_Mo_areThere_60 (K : Nat → ClassId) (N : Nat) (v4 : Int32) (v5 : Int32) (v6 : Int32) (h : fh_H) : Option (Int32 × fh_H) :=
  if v6 < 4 then (some (1, h)) else ((f_Mo_isIn K N v4 0 (v5 - 1) h).bind fun r1 => if r1.1 = 0 then (some (0, r1.2)) else (some (1, r1.2)))
def b_Mo_areThere_42 (K : Nat → ClassId) (N : Nat) (v3 : Int32) (v4 : Int32) (v5 : Int32) (v6 : Int32) (h : fh_H) : Option (Int32 × fh_H) :=
  if v6 < 3 then (b_Mo_areThere_60 K N v4 v5 v6 h) else ((f_Mo_isIn K N v3 0 (v5 - 1) h).bind fun r1 => if r1.1 = 0 then (some (0, r1.2)) else (b_Mo_areThere_60 K N v4 v5 v6 r1.2))
def b_Mo_areThere_24 (K : Nat → ClassId) (N : Nat) (v2 : Int32) (v3 : Int32) (v4 : Int32) (v5 : Int32) (v6 : Int32) (h : fh_H) : Option (Int32 × fh_H) :=
  if v6 < 2 then (b_Mo_areThere_42 K N v3 v4 v5 v6 h) else ((f_Mo_isIn K N v2 0 (v5 - 1) h).bind fun r1 => if r1.1 = 0 then (some (0, r1.2)) else (b_Mo_areThere_42 K N v3 v4 v5 v6 r1.2))
def f_Mo_areThere (K : Nat → ClassId) (N : Nat) (a0 : Int32) (a1 : Int32) (a2 : Int32) (a3 : Int32) (a4 : Int32) (a5 : Int32) (h0 : fh_H) : Option (Int32 × fh_H) :=
  (f_Mo_needs1 K N a0 h0).bind fun r1 => if r1.1 < 1 then (b_Mo_areThere_24 K N a2 a3 a4 a5 r1.1 r1.2) else ((f_Mo_isIn K N a1 0 (a5 - 1) r1.2).bind fun r2 => if r2.1 = 0 then (some (0, r2.2)) else (b_Mo_areThere_24 K N a2 a3 a4 a5 r1.1 r2.2))
set_option maxHeartbeats 4000000 in
set_option maxRecDepth 100000 in
theorem c_Mo_areThere {l : Launch} {D : va_G} {K : Nat → ClassId} {t : Nat → Nat} {N : Nat} {a0 : Int32} {a1 : Int32} {a2 : Int32} {a3 : Int32} {a4 : Int32} {a5 : Int32} {h0 : fh_H} {res : Int32 × fh_H} (hf : f_Mo_areThere K N a0 a1 a2 a3 a4 a5 h0 = some res) : fC l D K t y_Mo_areThere c0_Mo_areThere 7 (some .boolean) rm_Mo_areThere [.int a0, .int a1, .int a2, .int a3, .int a4, .int a5] h0 (some (.int res.1)) res.2 := by
  refine fh_body (by decide) (Nat.le_of_ble_eq_true rfl) ?_
  intro p e s m below meth c A ls S hr hk hnm hE hAe hI hl
  obtain ⟨hx, hb, hml, hown, hts⟩ := id S
  have hl : lv_has ls 7 [(0, .int a0), (1, .int a1), (2, .int a2), (3, .int a3), (4, .int a4), (5, .int a5)] := hl
  have B60 : ∀ (v4 : Int32) (v5 : Int32) (v6 : Int32) (h : fh_H) (H : Heap) (locs : List Loc) (ls : Array Slot), lv_has ls 7 [(4, .int v4), (5, .int v5), (6, .int v6)] → fh_I D classes A s.heap h H locs → b_Mo_areThere_60 K N v4 v5 v6 h = some res → W p l e rm_Mo_areThere s m [.int a0, .int a1, .int a2, .int a3, .int a4, .int a5].toArray below meth c H locs 0 0 (MQ below (fh_Q D classes h0 s.heap.size (some (.int res.1)) res.2) [.int a0, .int a1, .int a2, .int a3, .int a4, .int a5].toArray s 0 0 A) (F0 m 60 ls []) := by
    intro v4 v5 v6 h H locs ls hl hI hf
    unfold b_Mo_areThere_60 at hf
    refine lv_iload hx hb d_Mo_areThere_60 (lv_at hl 2 rfl) ?_
    refine lv_iconst (v := 4) hx hb d_Mo_areThere_62 (by decide) ?_
    refine lv_icmp_lt (tgt := 79) hx hb d_Mo_areThere_63 (by decide) (fun c_63 => ?_) (fun c_63 => ?_)
    · replace hf := fh_t c_63 hf
      refine lv_iconst (v := 1) hx hb d_Mo_areThere_79 (by decide) ?_
      refine lv_goto (tgt := 84) hx hb d_Mo_areThere_80 (by decide) ?_
      obtain rfl := Option.some.inj hf
      exact fh_iret S hr hk (fh_nb (Or.inr rfl)) hAe hI d_Mo_areThere_84
    · replace hf := fh_f c_63 hf
      refine lv_iload hx hb d_Mo_areThere_66 (lv_at hl 0 rfl) ?_
      refine lv_iconst (v := 0) hx hb d_Mo_areThere_68 (by decide) ?_
      refine lv_iload hx hb d_Mo_areThere_69 (lv_at hl 1 rfl) ?_
      refine lv_iconst (v := 1) hx hb d_Mo_areThere_71 (by decide) ?_
      refine lv_isub hx hb d_Mo_areThere_72 ?_
      obtain ⟨r1, e_r1, hf⟩ := fh_b hf
      refine fh_callS (As := [.int v4, .int 0, .int (v5 - 1)]) (rest := []) S fT_good hE hI (c_Mo_isIn e_r1) fy_Mo_isIn fst_Mo_isIn k_172 ⟨rfl, rfl⟩ ⟨Nat.le_of_ble_eq_true rfl, Nat.le_of_ble_eq_true rfl⟩ ⟨Nat.zero_le _, Nat.zero_le _⟩ rfl hl.1 rfl (Nat.le_of_ble_eq_true rfl) d_Mo_areThere_73 (fun H locs hI => ?_)
      refine lv_if_eq (tgt := 83) hx hb d_Mo_areThere_76 (by decide) (fun c_76 => ?_) (fun c_76 => ?_)
      · replace hf := fh_t c_76 hf
        refine lv_iconst (v := 0) hx hb d_Mo_areThere_83 (by decide) ?_
        obtain rfl := Option.some.inj hf
        exact fh_iret S hr hk (fh_nb (Or.inl rfl)) hAe hI d_Mo_areThere_84
      · replace hf := fh_f c_76 hf
        refine lv_iconst (v := 1) hx hb d_Mo_areThere_79 (by decide) ?_
        refine lv_goto (tgt := 84) hx hb d_Mo_areThere_80 (by decide) ?_
        obtain rfl := Option.some.inj hf
        exact fh_iret S hr hk (fh_nb (Or.inr rfl)) hAe hI d_Mo_areThere_84
  have B42 : ∀ (v3 : Int32) (v4 : Int32) (v5 : Int32) (v6 : Int32) (h : fh_H) (H : Heap) (locs : List Loc) (ls : Array Slot), lv_has ls 7 [(3, .int v3), (4, .int v4), (5, .int v5), (6, .int v6)] → fh_I D classes A s.heap h H locs → b_Mo_areThere_42 K N v3 v4 v5 v6 h = some res → W p l e rm_Mo_areThere s m [.int a0, .int a1, .int a2, .int a3, .int a4, .int a5].toArray below meth c H locs 0 0 (MQ below (fh_Q D classes h0 s.heap.size (some (.int res.1)) res.2) [.int a0, .int a1, .int a2, .int a3, .int a4, .int a5].toArray s 0 0 A) (F0 m 42 ls []) := by
    intro v3 v4 v5 v6 h H locs ls hl hI hf
    unfold b_Mo_areThere_42 at hf
    refine lv_iload hx hb d_Mo_areThere_42 (lv_at hl 3 rfl) ?_
    refine lv_iconst (v := 3) hx hb d_Mo_areThere_44 (by decide) ?_
    refine lv_icmp_lt (tgt := 60) hx hb d_Mo_areThere_45 (by decide) (fun c_45 => ?_) (fun c_45 => ?_)
    · replace hf := fh_t c_45 hf
      exact B60 v4 v5 v6 h _ _ _ (lv_sub hl [1, 2, 3] rfl) hI hf
    · replace hf := fh_f c_45 hf
      refine lv_iload_n hx hb d_Mo_areThere_48 rfl (lv_at hl 0 rfl) ?_
      refine lv_iconst (v := 0) hx hb d_Mo_areThere_49 (by decide) ?_
      refine lv_iload hx hb d_Mo_areThere_50 (lv_at hl 2 rfl) ?_
      refine lv_iconst (v := 1) hx hb d_Mo_areThere_52 (by decide) ?_
      refine lv_isub hx hb d_Mo_areThere_53 ?_
      obtain ⟨r1, e_r1, hf⟩ := fh_b hf
      refine fh_callS (As := [.int v3, .int 0, .int (v5 - 1)]) (rest := []) S fT_good hE hI (c_Mo_isIn e_r1) fy_Mo_isIn fst_Mo_isIn k_172 ⟨rfl, rfl⟩ ⟨Nat.le_of_ble_eq_true rfl, Nat.le_of_ble_eq_true rfl⟩ ⟨Nat.zero_le _, Nat.zero_le _⟩ rfl hl.1 rfl (Nat.le_of_ble_eq_true rfl) d_Mo_areThere_54 (fun H locs hI => ?_)
      refine lv_if_eq (tgt := 83) hx hb d_Mo_areThere_57 (by decide) (fun c_57 => ?_) (fun c_57 => ?_)
      · replace hf := fh_t c_57 hf
        refine lv_iconst (v := 0) hx hb d_Mo_areThere_83 (by decide) ?_
        obtain rfl := Option.some.inj hf
        exact fh_iret S hr hk (fh_nb (Or.inl rfl)) hAe hI d_Mo_areThere_84
      · replace hf := fh_f c_57 hf
        exact B60 v4 v5 v6 r1.2 _ _ _ (lv_sub hl [1, 2, 3] rfl) hI hf
  have B24 : ∀ (v2 : Int32) (v3 : Int32) (v4 : Int32) (v5 : Int32) (v6 : Int32) (h : fh_H) (H : Heap) (locs : List Loc) (ls : Array Slot), lv_has ls 7 [(2, .int v2), (3, .int v3), (4, .int v4), (5, .int v5), (6, .int v6)] → fh_I D classes A s.heap h H locs → b_Mo_areThere_24 K N v2 v3 v4 v5 v6 h = some res → W p l e rm_Mo_areThere s m [.int a0, .int a1, .int a2, .int a3, .int a4, .int a5].toArray below meth c H locs 0 0 (MQ below (fh_Q D classes h0 s.heap.size (some (.int res.1)) res.2) [.int a0, .int a1, .int a2, .int a3, .int a4, .int a5].toArray s 0 0 A) (F0 m 24 ls []) := by
    intro v2 v3 v4 v5 v6 h H locs ls hl hI hf
    unfold b_Mo_areThere_24 at hf
    refine lv_iload hx hb d_Mo_areThere_24 (lv_at hl 4 rfl) ?_
    refine lv_iconst (v := 2) hx hb d_Mo_areThere_26 (by decide) ?_
    refine lv_icmp_lt (tgt := 42) hx hb d_Mo_areThere_27 (by decide) (fun c_27 => ?_) (fun c_27 => ?_)
    · replace hf := fh_t c_27 hf
      exact B42 v3 v4 v5 v6 h _ _ _ (lv_sub hl [1, 2, 3, 4] rfl) hI hf
    · replace hf := fh_f c_27 hf
      refine lv_iload_n hx hb d_Mo_areThere_30 rfl (lv_at hl 0 rfl) ?_
      refine lv_iconst (v := 0) hx hb d_Mo_areThere_31 (by decide) ?_
      refine lv_iload hx hb d_Mo_areThere_32 (lv_at hl 3 rfl) ?_
      refine lv_iconst (v := 1) hx hb d_Mo_areThere_34 (by decide) ?_
      refine lv_isub hx hb d_Mo_areThere_35 ?_
      obtain ⟨r1, e_r1, hf⟩ := fh_b hf
      refine fh_callS (As := [.int v2, .int 0, .int (v5 - 1)]) (rest := []) S fT_good hE hI (c_Mo_isIn e_r1) fy_Mo_isIn fst_Mo_isIn k_172 ⟨rfl, rfl⟩ ⟨Nat.le_of_ble_eq_true rfl, Nat.le_of_ble_eq_true rfl⟩ ⟨Nat.zero_le _, Nat.zero_le _⟩ rfl hl.1 rfl (Nat.le_of_ble_eq_true rfl) d_Mo_areThere_36 (fun H locs hI => ?_)
      refine lv_if_eq (tgt := 83) hx hb d_Mo_areThere_39 (by decide) (fun c_39 => ?_) (fun c_39 => ?_)
      · replace hf := fh_t c_39 hf
        refine lv_iconst (v := 0) hx hb d_Mo_areThere_83 (by decide) ?_
        obtain rfl := Option.some.inj hf
        exact fh_iret S hr hk (fh_nb (Or.inl rfl)) hAe hI d_Mo_areThere_84
      · replace hf := fh_f c_39 hf
        exact B42 v3 v4 v5 v6 r1.2 _ _ _ (lv_sub hl [1, 2, 3, 4] rfl) hI hf
  unfold f_Mo_areThere at hf
  refine lv_iload_n hx hb d_Mo_areThere_0 rfl (lv_at hl 0 rfl) ?_
  obtain ⟨r1, e_r1, hf⟩ := fh_b hf
  refine fh_callS (As := [.int a0]) (rest := []) S fT_good hE hI (c_Mo_needs1 e_r1) fy_Mo_needs1 fst_Mo_needs1 k_171 ⟨rfl, rfl⟩ ⟨Nat.le_of_ble_eq_true rfl, Nat.le_of_ble_eq_true rfl⟩ ⟨Nat.zero_le _, Nat.zero_le _⟩ rfl hl.1 rfl (Nat.le_of_ble_eq_true rfl) d_Mo_areThere_1 (fun H locs hI => ?_)
  refine lv_istore (lv' := [(6, .int r1.1), (0, .int a0), (1, .int a1), (2, .int a2), (3, .int a3), (4, .int a4), (5, .int a5)]) hx hb d_Mo_areThere_4 hl (by decide) rfl (fun ls hl => ?_)
  refine lv_iload hx hb d_Mo_areThere_6 (lv_at hl 0 rfl) ?_
  refine lv_iconst (v := 1) hx hb d_Mo_areThere_8 (by decide) ?_
  refine lv_icmp_lt (tgt := 24) hx hb d_Mo_areThere_9 (by decide) (fun c_9 => ?_) (fun c_9 => ?_)
  · replace hf := fh_t c_9 hf
    exact B24 a2 a3 a4 a5 r1.1 r1.2 _ _ _ (lv_sub hl [3, 4, 5, 6, 0] rfl) hI hf
  · replace hf := fh_f c_9 hf
    refine lv_iload_n hx hb d_Mo_areThere_12 rfl (lv_at hl 2 rfl) ?_
    refine lv_iconst (v := 0) hx hb d_Mo_areThere_13 (by decide) ?_
    refine lv_iload hx hb d_Mo_areThere_14 (lv_at hl 6 rfl) ?_
    refine lv_iconst (v := 1) hx hb d_Mo_areThere_16 (by decide) ?_
    refine lv_isub hx hb d_Mo_areThere_17 ?_
    obtain ⟨r2, e_r2, hf⟩ := fh_b hf
    refine fh_callS (As := [.int a1, .int 0, .int (a5 - 1)]) (rest := []) S fT_good hE hI (c_Mo_isIn e_r2) fy_Mo_isIn fst_Mo_isIn k_172 ⟨rfl, rfl⟩ ⟨Nat.le_of_ble_eq_true rfl, Nat.le_of_ble_eq_true rfl⟩ ⟨Nat.zero_le _, Nat.zero_le _⟩ rfl hl.1 rfl (Nat.le_of_ble_eq_true rfl) d_Mo_areThere_18 (fun H locs hI => ?_)
    refine lv_if_eq (tgt := 83) hx hb d_Mo_areThere_21 (by decide) (fun c_21 => ?_) (fun c_21 => ?_)
    · replace hf := fh_t c_21 hf
      refine lv_iconst (v := 0) hx hb d_Mo_areThere_83 (by decide) ?_
      obtain rfl := Option.some.inj hf
      exact fh_iret S hr hk (fh_nb (Or.inl rfl)) hAe hI d_Mo_areThere_84
    · replace hf := fh_f c_21 hf
      exact B24 a2 a3 a4 a5 r1.1 r2.2 _ _ _ (lv_sub hl [3, 4, 5, 6, 0] rfl) hI hf
theorem d_Mo_setStep_0 : decode c0_Mo_setStep 0 = .ok (.iload_n 2, 1) := by decide +kernel
theorem d_Mo_setStep_1 : decode c0_Mo_setStep 1 = .ok (.invokestatic 141, 3) := by decide +kernel
theorem d_Mo_setStep_4 : decode c0_Mo_setStep 4 = .ok (.istore 7, 2) := by decide +kernel
theorem d_Mo_setStep_6 : decode c0_Mo_setStep 6 = .ok (.aload_n 0, 1) := by decide +kernel
theorem d_Mo_setStep_7 : decode c0_Mo_setStep 7 = .ok (.getfield 7, 3) := by decide +kernel
theorem d_Mo_setStep_10 : decode c0_Mo_setStep 10 = .ok (.iload_n 1, 1) := by decide +kernel
theorem d_Mo_setStep_11 : decode c0_Mo_setStep 11 = .ok (.iload_n 2, 1) := by decide +kernel
theorem d_Mo_setStep_12 : decode c0_Mo_setStep 12 = .ok (.iastore, 1) := by decide +kernel
theorem d_Mo_setStep_13 : decode c0_Mo_setStep 13 = .ok (.aload_n 0, 1) := by decide +kernel
theorem d_Mo_setStep_14 : decode c0_Mo_setStep 14 = .ok (.getfield 13, 3) := by decide +kernel
theorem d_Mo_setStep_17 : decode c0_Mo_setStep 17 = .ok (.iconst 4, 1) := by decide +kernel
theorem d_Mo_setStep_18 : decode c0_Mo_setStep 18 = .ok (.iload_n 1, 1) := by decide +kernel
theorem d_Mo_setStep_19 : decode c0_Mo_setStep 19 = .ok (.imul, 1) := by decide +kernel
theorem d_Mo_setStep_20 : decode c0_Mo_setStep 20 = .ok (.iload 7, 2) := by decide +kernel
theorem d_Mo_setStep_22 : decode c0_Mo_setStep 22 = .ok (.ifCond .le 7, 3) := by decide +kernel
theorem d_Mo_setStep_25 : decode c0_Mo_setStep 25 = .ok (.iload_n 3, 1) := by decide +kernel
theorem d_Mo_setStep_26 : decode c0_Mo_setStep 26 = .ok (.goto 4, 3) := by decide +kernel
theorem d_Mo_setStep_29 : decode c0_Mo_setStep 29 = .ok (.iconst 0, 1) := by decide +kernel
theorem d_Mo_setStep_30 : decode c0_Mo_setStep 30 = .ok (.iastore, 1) := by decide +kernel
theorem d_Mo_setStep_31 : decode c0_Mo_setStep 31 = .ok (.aload_n 0, 1) := by decide +kernel
theorem d_Mo_setStep_32 : decode c0_Mo_setStep 32 = .ok (.getfield 13, 3) := by decide +kernel
theorem d_Mo_setStep_35 : decode c0_Mo_setStep 35 = .ok (.iconst 4, 1) := by decide +kernel
theorem d_Mo_setStep_36 : decode c0_Mo_setStep 36 = .ok (.iload_n 1, 1) := by decide +kernel
theorem d_Mo_setStep_37 : decode c0_Mo_setStep 37 = .ok (.imul, 1) := by decide +kernel
theorem d_Mo_setStep_38 : decode c0_Mo_setStep 38 = .ok (.iconst 1, 1) := by decide +kernel
theorem d_Mo_setStep_39 : decode c0_Mo_setStep 39 = .ok (.iadd, 1) := by decide +kernel
theorem d_Mo_setStep_40 : decode c0_Mo_setStep 40 = .ok (.iload 7, 2) := by decide +kernel
theorem d_Mo_setStep_42 : decode c0_Mo_setStep 42 = .ok (.iconst 1, 1) := by decide +kernel
theorem d_Mo_setStep_43 : decode c0_Mo_setStep 43 = .ok (.if_icmp .le 8, 3) := by decide +kernel
theorem d_Mo_setStep_46 : decode c0_Mo_setStep 46 = .ok (.iload 4, 2) := by decide +kernel
theorem d_Mo_setStep_48 : decode c0_Mo_setStep 48 = .ok (.goto 4, 3) := by decide +kernel
theorem d_Mo_setStep_51 : decode c0_Mo_setStep 51 = .ok (.iconst 0, 1) := by decide +kernel
theorem d_Mo_setStep_52 : decode c0_Mo_setStep 52 = .ok (.iastore, 1) := by decide +kernel
theorem d_Mo_setStep_53 : decode c0_Mo_setStep 53 = .ok (.aload_n 0, 1) := by decide +kernel
theorem d_Mo_setStep_54 : decode c0_Mo_setStep 54 = .ok (.getfield 13, 3) := by decide +kernel
theorem d_Mo_setStep_57 : decode c0_Mo_setStep 57 = .ok (.iconst 4, 1) := by decide +kernel
theorem d_Mo_setStep_58 : decode c0_Mo_setStep 58 = .ok (.iload_n 1, 1) := by decide +kernel
theorem d_Mo_setStep_59 : decode c0_Mo_setStep 59 = .ok (.imul, 1) := by decide +kernel
theorem d_Mo_setStep_60 : decode c0_Mo_setStep 60 = .ok (.iconst 2, 1) := by decide +kernel
theorem d_Mo_setStep_61 : decode c0_Mo_setStep 61 = .ok (.iadd, 1) := by decide +kernel
theorem d_Mo_setStep_62 : decode c0_Mo_setStep 62 = .ok (.iload 7, 2) := by decide +kernel
theorem d_Mo_setStep_64 : decode c0_Mo_setStep 64 = .ok (.iconst 2, 1) := by decide +kernel
theorem d_Mo_setStep_65 : decode c0_Mo_setStep 65 = .ok (.if_icmp .le 8, 3) := by decide +kernel
theorem d_Mo_setStep_68 : decode c0_Mo_setStep 68 = .ok (.iload 5, 2) := by decide +kernel
theorem d_Mo_setStep_70 : decode c0_Mo_setStep 70 = .ok (.goto 4, 3) := by decide +kernel
theorem d_Mo_setStep_73 : decode c0_Mo_setStep 73 = .ok (.iconst 0, 1) := by decide +kernel
theorem d_Mo_setStep_74 : decode c0_Mo_setStep 74 = .ok (.iastore, 1) := by decide +kernel
theorem d_Mo_setStep_75 : decode c0_Mo_setStep 75 = .ok (.aload_n 0, 1) := by decide +kernel
theorem d_Mo_setStep_76 : decode c0_Mo_setStep 76 = .ok (.getfield 13, 3) := by decide +kernel
theorem d_Mo_setStep_79 : decode c0_Mo_setStep 79 = .ok (.iconst 4, 1) := by decide +kernel
theorem d_Mo_setStep_80 : decode c0_Mo_setStep 80 = .ok (.iload_n 1, 1) := by decide +kernel
theorem d_Mo_setStep_81 : decode c0_Mo_setStep 81 = .ok (.imul, 1) := by decide +kernel
theorem d_Mo_setStep_82 : decode c0_Mo_setStep 82 = .ok (.iconst 3, 1) := by decide +kernel
theorem d_Mo_setStep_83 : decode c0_Mo_setStep 83 = .ok (.iadd, 1) := by decide +kernel
theorem d_Mo_setStep_84 : decode c0_Mo_setStep 84 = .ok (.iload 7, 2) := by decide +kernel
theorem d_Mo_setStep_86 : decode c0_Mo_setStep 86 = .ok (.iconst 3, 1) := by decide +kernel
theorem d_Mo_setStep_87 : decode c0_Mo_setStep 87 = .ok (.if_icmp .le 8, 3) := by decide +kernel
theorem d_Mo_setStep_90 : decode c0_Mo_setStep 90 = .ok (.iload 6, 2) := by decide +kernel
theorem d_Mo_setStep_92 : decode c0_Mo_setStep 92 = .ok (.goto 4, 3) := by decide +kernel
theorem d_Mo_setStep_95 : decode c0_Mo_setStep 95 = .ok (.iconst 0, 1) := by decide +kernel
theorem d_Mo_setStep_96 : decode c0_Mo_setStep 96 = .ok (.iastore, 1) := by decide +kernel
theorem d_Mo_setStep_97 : decode c0_Mo_setStep 97 = .ok (.return_, 1) := by decide +kernel
def b_Mo_setStep_74 (K : Nat → ClassId) (N : Nat) (o : Nat) (v1 : Int32) (v6 : Int32) (v7 : Int32) (w0 : Option Nat) (w1 : Int32) (w2 : Int32) (h : fh_H) : Option (fh_H) :=
  (fs_i (K 0) h w0 w1 w2).bind fun h1 => (fg_a h1 (some o) 6 2).bind fun x2 => if v7 ≤ 3 then ((fs_i (K 0) h1 x2 ((4 * v1) + 3) 0).bind fun h3 => some h3) else ((fs_i (K 0) h1 x2 ((4 * v1) + 3) v6).bind fun h4 => some h4)
def b_Mo_setStep_52 (K : Nat → ClassId) (N : Nat) (o : Nat) (v1 : Int32) (v5 : Int32) (v6 : Int32) (v7 : Int32) (w0 : Option Nat) (w1 : Int32) (w2 : Int32) (h : fh_H) : Option (fh_H) :=
  (fs_i (K 0) h w0 w1 w2).bind fun h1 => (fg_a h1 (some o) 6 2).bind fun x2 => if v7 ≤ 2 then (b_Mo_setStep_74 K N o v1 v6 v7 x2 ((4 * v1) + 2) 0 h1) else (b_Mo_setStep_74 K N o v1 v6 v7 x2 ((4 * v1) + 2) v5 h1)
def b_Mo_setStep_30 (K : Nat → ClassId) (N : Nat) (o : Nat) (v1 : Int32) (v4 : Int32) (v5 : Int32) (v6 : Int32) (v7 : Int32) (w0 : Option Nat) (w1 : Int32) (w2 : Int32) (h : fh_H) : Option (fh_H) :=
  (fs_i (K 0) h w0 w1 w2).bind fun h1 => (fg_a h1 (some o) 6 2).bind fun x2 => if v7 ≤ 1 then (b_Mo_setStep_52 K N o v1 v5 v6 v7 x2 ((4 * v1) + 1) 0 h1) else (b_Mo_setStep_52 K N o v1 v5 v6 v7 x2 ((4 * v1) + 1) v4 h1)
def f_Mo_setStep (K : Nat → ClassId) (N : Nat) (o : Nat) (a1 : Int32) (a2 : Int32) (a3 : Int32) (a4 : Int32) (a5 : Int32) (a6 : Int32) (h0 : fh_H) : Option (fh_H) :=
  (f_Mo_needs1 K N a2 h0).bind fun r1 => (fg_a r1.2 (some o) 6 1).bind fun x2 => (fs_i (K 0) r1.2 x2 a1 a2).bind fun h3 => (fg_a h3 (some o) 6 2).bind fun x4 => if r1.1 ≤ 0 then (b_Mo_setStep_30 K N o a1 a4 a5 a6 r1.1 x4 (4 * a1) 0 h3) else (b_Mo_setStep_30 K N o a1 a4 a5 a6 r1.1 x4 (4 * a1) a3 h3)
set_option maxHeartbeats 4000000 in
set_option maxRecDepth 100000 in
theorem c_Mo_setStep {l : Launch} {D : va_G} {K : Nat → ClassId} {t : Nat → Nat} {N : Nat} {o : Nat} {a1 : Int32} {a2 : Int32} {a3 : Int32} {a4 : Int32} {a5 : Int32} {a6 : Int32} {h0 : fh_H} {res : fh_H} (hf : f_Mo_setStep K N o a1 a2 a3 a4 a5 a6 h0 = some res) : fC l D K t y_Mo_setStep c0_Mo_setStep 8 none rm_Mo_setStep [.ref o, .int a1, .int a2, .int a3, .int a4, .int a5, .int a6] h0 (none) res := by
  refine fh_body (by decide) (Nat.le_of_ble_eq_true rfl) ?_
  intro p e s m below meth c A ls S hr hk hnm hE hAe hI hl
  obtain ⟨hx, hb, hml, hown, hts⟩ := id S
  have hl : lv_has ls 8 [(0, va_rf (some o)), (1, .int a1), (2, .int a2), (3, .int a3), (4, .int a4), (5, .int a5), (6, .int a6)] := hl
  have B74 : ∀ (v1 : Int32) (v6 : Int32) (v7 : Int32) (w0 : Option Nat) (w1 : Int32) (w2 : Int32) (h : fh_H) (H : Heap) (locs : List Loc) (ls : Array Slot), lv_has ls 8 [(0, va_rf (some o)), (1, .int v1), (6, .int v6), (7, .int v7)] → fh_I D classes A s.heap h H locs → b_Mo_setStep_74 K N o v1 v6 v7 w0 w1 w2 h = some res → W p l e rm_Mo_setStep s m [.ref o, .int a1, .int a2, .int a3, .int a4, .int a5, .int a6].toArray below meth c H locs 0 0 (MQ below (fh_Q D classes h0 s.heap.size (none) res) [.ref o, .int a1, .int a2, .int a3, .int a4, .int a5, .int a6].toArray s 0 0 A) (F0 m 74 ls [.int w2, .int w1, va_rf w0]) := by
    intro v1 v6 v7 w0 w1 w2 h H locs ls hl hI hf
    unfold b_Mo_setStep_74 at hf
    obtain ⟨h1, e_h1, hf⟩ := fh_b hf
    refine fh_iast S hE.1 hI 0 rfl e_h1 d_Mo_setStep_74 (fun H locs hI => ?_)
    refine fh_aload_n S d_Mo_setStep_75 rfl (lv_at hl 0 rfl) ?_
    obtain ⟨x2, e_x2, hf⟩ := fh_b hf
    refine fh_geta S hE.1 hI e_x2 (hc := rfl) (hin := in_6) (by decide) (hts _ k_165) d_Mo_setStep_76 ?_
    refine lv_iconst (v := 4) hx hb d_Mo_setStep_79 (by decide) ?_
    refine lv_iload_n hx hb d_Mo_setStep_80 rfl (lv_at hl 1 rfl) ?_
    refine lv_imul hx hb d_Mo_setStep_81 ?_
    refine lv_iconst (v := 3) hx hb d_Mo_setStep_82 (by decide) ?_
    refine lv_iadd hx hb d_Mo_setStep_83 ?_
    refine lv_iload hx hb d_Mo_setStep_84 (lv_at hl 3 rfl) ?_
    refine lv_iconst (v := 3) hx hb d_Mo_setStep_86 (by decide) ?_
    refine lv_icmp_le (tgt := 95) hx hb d_Mo_setStep_87 (by decide) (fun c_87 => ?_) (fun c_87 => ?_)
    · replace hf := fh_t c_87 hf
      refine lv_iconst (v := 0) hx hb d_Mo_setStep_95 (by decide) ?_
      obtain ⟨h3, e_h3, hf⟩ := fh_b hf
      refine fh_iast S hE.1 hI 0 rfl e_h3 d_Mo_setStep_96 (fun H locs hI => ?_)
      obtain rfl := Option.some.inj hf
      exact fh_vret S hr hk hAe hI d_Mo_setStep_97
    · replace hf := fh_f c_87 hf
      refine lv_iload hx hb d_Mo_setStep_90 (lv_at hl 2 rfl) ?_
      refine lv_goto (tgt := 96) hx hb d_Mo_setStep_92 (by decide) ?_
      obtain ⟨h4, e_h4, hf⟩ := fh_b hf
      refine fh_iast S hE.1 hI 0 rfl e_h4 d_Mo_setStep_96 (fun H locs hI => ?_)
      obtain rfl := Option.some.inj hf
      exact fh_vret S hr hk hAe hI d_Mo_setStep_97
  have B52 : ∀ (v1 : Int32) (v5 : Int32) (v6 : Int32) (v7 : Int32) (w0 : Option Nat) (w1 : Int32) (w2 : Int32) (h : fh_H) (H : Heap) (locs : List Loc) (ls : Array Slot), lv_has ls 8 [(0, va_rf (some o)), (1, .int v1), (5, .int v5), (6, .int v6), (7, .int v7)] → fh_I D classes A s.heap h H locs → b_Mo_setStep_52 K N o v1 v5 v6 v7 w0 w1 w2 h = some res → W p l e rm_Mo_setStep s m [.ref o, .int a1, .int a2, .int a3, .int a4, .int a5, .int a6].toArray below meth c H locs 0 0 (MQ below (fh_Q D classes h0 s.heap.size (none) res) [.ref o, .int a1, .int a2, .int a3, .int a4, .int a5, .int a6].toArray s 0 0 A) (F0 m 52 ls [.int w2, .int w1, va_rf w0]) := by
    intro v1 v5 v6 v7 w0 w1 w2 h H locs ls hl hI hf
    unfold b_Mo_setStep_52 at hf
    obtain ⟨h1, e_h1, hf⟩ := fh_b hf
    refine fh_iast S hE.1 hI 0 rfl e_h1 d_Mo_setStep_52 (fun H locs hI => ?_)
    refine fh_aload_n S d_Mo_setStep_53 rfl (lv_at hl 0 rfl) ?_
    obtain ⟨x2, e_x2, hf⟩ := fh_b hf
    refine fh_geta S hE.1 hI e_x2 (hc := rfl) (hin := in_6) (by decide) (hts _ k_165) d_Mo_setStep_54 ?_
    refine lv_iconst (v := 4) hx hb d_Mo_setStep_57 (by decide) ?_
    refine lv_iload_n hx hb d_Mo_setStep_58 rfl (lv_at hl 1 rfl) ?_
    refine lv_imul hx hb d_Mo_setStep_59 ?_
    refine lv_iconst (v := 2) hx hb d_Mo_setStep_60 (by decide) ?_
    refine lv_iadd hx hb d_Mo_setStep_61 ?_
    refine lv_iload hx hb d_Mo_setStep_62 (lv_at hl 4 rfl) ?_
    refine lv_iconst (v := 2) hx hb d_Mo_setStep_64 (by decide) ?_
    refine lv_icmp_le (tgt := 73) hx hb d_Mo_setStep_65 (by decide) (fun c_65 => ?_) (fun c_65 => ?_)
    · replace hf := fh_t c_65 hf
      refine lv_iconst (v := 0) hx hb d_Mo_setStep_73 (by decide) ?_
      exact B74 v1 v6 v7 x2 ((4 * v1) + 2) 0 h1 _ _ _ (lv_sub hl [0, 1, 3, 4] rfl) hI hf
    · replace hf := fh_f c_65 hf
      refine lv_iload hx hb d_Mo_setStep_68 (lv_at hl 2 rfl) ?_
      refine lv_goto (tgt := 74) hx hb d_Mo_setStep_70 (by decide) ?_
      exact B74 v1 v6 v7 x2 ((4 * v1) + 2) v5 h1 _ _ _ (lv_sub hl [0, 1, 3, 4] rfl) hI hf
  have B30 : ∀ (v1 : Int32) (v4 : Int32) (v5 : Int32) (v6 : Int32) (v7 : Int32) (w0 : Option Nat) (w1 : Int32) (w2 : Int32) (h : fh_H) (H : Heap) (locs : List Loc) (ls : Array Slot), lv_has ls 8 [(0, va_rf (some o)), (1, .int v1), (4, .int v4), (5, .int v5), (6, .int v6), (7, .int v7)] → fh_I D classes A s.heap h H locs → b_Mo_setStep_30 K N o v1 v4 v5 v6 v7 w0 w1 w2 h = some res → W p l e rm_Mo_setStep s m [.ref o, .int a1, .int a2, .int a3, .int a4, .int a5, .int a6].toArray below meth c H locs 0 0 (MQ below (fh_Q D classes h0 s.heap.size (none) res) [.ref o, .int a1, .int a2, .int a3, .int a4, .int a5, .int a6].toArray s 0 0 A) (F0 m 30 ls [.int w2, .int w1, va_rf w0]) := by
    intro v1 v4 v5 v6 v7 w0 w1 w2 h H locs ls hl hI hf
    unfold b_Mo_setStep_30 at hf
    obtain ⟨h1, e_h1, hf⟩ := fh_b hf
    refine fh_iast S hE.1 hI 0 rfl e_h1 d_Mo_setStep_30 (fun H locs hI => ?_)
    refine fh_aload_n S d_Mo_setStep_31 rfl (lv_at hl 0 rfl) ?_
    obtain ⟨x2, e_x2, hf⟩ := fh_b hf
    refine fh_geta S hE.1 hI e_x2 (hc := rfl) (hin := in_6) (by decide) (hts _ k_165) d_Mo_setStep_32 ?_
    refine lv_iconst (v := 4) hx hb d_Mo_setStep_35 (by decide) ?_
    refine lv_iload_n hx hb d_Mo_setStep_36 rfl (lv_at hl 1 rfl) ?_
    refine lv_imul hx hb d_Mo_setStep_37 ?_
    refine lv_iconst (v := 1) hx hb d_Mo_setStep_38 (by decide) ?_
    refine lv_iadd hx hb d_Mo_setStep_39 ?_
    refine lv_iload hx hb d_Mo_setStep_40 (lv_at hl 5 rfl) ?_
    refine lv_iconst (v := 1) hx hb d_Mo_setStep_42 (by decide) ?_
    refine lv_icmp_le (tgt := 51) hx hb d_Mo_setStep_43 (by decide) (fun c_43 => ?_) (fun c_43 => ?_)
    · replace hf := fh_t c_43 hf
      refine lv_iconst (v := 0) hx hb d_Mo_setStep_51 (by decide) ?_
      exact B52 v1 v5 v6 v7 x2 ((4 * v1) + 1) 0 h1 _ _ _ (lv_sub hl [0, 1, 3, 4, 5] rfl) hI hf
    · replace hf := fh_f c_43 hf
      refine lv_iload hx hb d_Mo_setStep_46 (lv_at hl 2 rfl) ?_
      refine lv_goto (tgt := 52) hx hb d_Mo_setStep_48 (by decide) ?_
      exact B52 v1 v5 v6 v7 x2 ((4 * v1) + 1) v4 h1 _ _ _ (lv_sub hl [0, 1, 3, 4, 5] rfl) hI hf
  unfold f_Mo_setStep at hf
  refine lv_iload_n hx hb d_Mo_setStep_0 rfl (lv_at hl 2 rfl) ?_
  obtain ⟨r1, e_r1, hf⟩ := fh_b hf
  refine fh_callS (As := [.int a2]) (rest := []) S fT_good hE hI (c_Mo_needs1 e_r1) fy_Mo_needs1 fst_Mo_needs1 k_171 ⟨rfl, rfl⟩ ⟨Nat.le_of_ble_eq_true rfl, Nat.le_of_ble_eq_true rfl⟩ ⟨Nat.zero_le _, Nat.zero_le _⟩ rfl hl.1 rfl (Nat.le_of_ble_eq_true rfl) d_Mo_setStep_1 (fun H locs hI => ?_)
  refine lv_istore (lv' := [(7, .int r1.1), (0, va_rf (some o)), (1, .int a1), (2, .int a2), (3, .int a3), (4, .int a4), (5, .int a5), (6, .int a6)]) hx hb d_Mo_setStep_4 hl (by decide) rfl (fun ls hl => ?_)
  refine fh_aload_n S d_Mo_setStep_6 rfl (lv_at hl 1 rfl) ?_
  obtain ⟨x2, e_x2, hf⟩ := fh_b hf
  refine fh_geta S hE.1 hI e_x2 (hc := rfl) (hin := in_6) (by decide) (hts _ k_164) d_Mo_setStep_7 ?_
  refine lv_iload_n hx hb d_Mo_setStep_10 rfl (lv_at hl 2 rfl) ?_
  refine lv_iload_n hx hb d_Mo_setStep_11 rfl (lv_at hl 3 rfl) ?_
  obtain ⟨h3, e_h3, hf⟩ := fh_b hf
  refine fh_iast S hE.1 hI 0 rfl e_h3 d_Mo_setStep_12 (fun H locs hI => ?_)
  refine fh_aload_n S d_Mo_setStep_13 rfl (lv_at hl 1 rfl) ?_
  obtain ⟨x4, e_x4, hf⟩ := fh_b hf
  refine fh_geta S hE.1 hI e_x4 (hc := rfl) (hin := in_6) (by decide) (hts _ k_165) d_Mo_setStep_14 ?_
  refine lv_iconst (v := 4) hx hb d_Mo_setStep_17 (by decide) ?_
  refine lv_iload_n hx hb d_Mo_setStep_18 rfl (lv_at hl 2 rfl) ?_
  refine lv_imul hx hb d_Mo_setStep_19 ?_
  refine lv_iload hx hb d_Mo_setStep_20 (lv_at hl 0 rfl) ?_
  refine lv_if_le (tgt := 29) hx hb d_Mo_setStep_22 (by decide) (fun c_22 => ?_) (fun c_22 => ?_)
  · replace hf := fh_t c_22 hf
    refine lv_iconst (v := 0) hx hb d_Mo_setStep_29 (by decide) ?_
    exact B30 a1 a4 a5 a6 r1.1 x4 (4 * a1) 0 h3 _ _ _ (lv_sub hl [1, 2, 5, 6, 7, 0] rfl) hI hf
  · replace hf := fh_f c_22 hf
    refine lv_iload_n hx hb d_Mo_setStep_25 rfl (lv_at hl 4 rfl) ?_
    refine lv_goto (tgt := 30) hx hb d_Mo_setStep_26 (by decide) ?_
    exact B30 a1 a4 a5 a6 r1.1 x4 (4 * a1) a3 h3 _ _ _ (lv_sub hl [1, 2, 5, 6, 7, 0] rfl) hI hf
theorem d_Mo_step_0 : decode c0_Mo_step 0 = .ok (.iload_n 1, 1) := by decide +kernel
theorem d_Mo_step_1 : decode c0_Mo_step 1 = .ok (.iconst 0, 1) := by decide +kernel
theorem d_Mo_step_2 : decode c0_Mo_step 2 = .ok (.bipush 13, 2) := by decide +kernel
theorem d_Mo_step_4 : decode c0_Mo_step 4 = .ok (.invokestatic 145, 3) := by decide +kernel
theorem d_Mo_step_7 : decode c0_Mo_step 7 = .ok (.ifCond .eq 20, 3) := by decide +kernel
theorem d_Mo_step_10 : decode c0_Mo_step 10 = .ok (.iload_n 1, 1) := by decide +kernel
theorem d_Mo_step_11 : decode c0_Mo_step 11 = .ok (.iload_n 2, 1) := by decide +kernel
theorem d_Mo_step_12 : decode c0_Mo_step 12 = .ok (.iload_n 3, 1) := by decide +kernel
theorem d_Mo_step_13 : decode c0_Mo_step 13 = .ok (.iload 4, 2) := by decide +kernel
theorem d_Mo_step_15 : decode c0_Mo_step 15 = .ok (.iload 5, 2) := by decide +kernel
theorem d_Mo_step_17 : decode c0_Mo_step 17 = .ok (.aload_n 0, 1) := by decide +kernel
theorem d_Mo_step_18 : decode c0_Mo_step 18 = .ok (.getfield 131, 3) := by decide +kernel
theorem d_Mo_step_21 : decode c0_Mo_step 21 = .ok (.invokestatic 149, 3) := by decide +kernel
theorem d_Mo_step_24 : decode c0_Mo_step 24 = .ok (.ifCond .ne 6, 3) := by decide +kernel
theorem d_Mo_step_27 : decode c0_Mo_step 27 = .ok (.bipush (-2), 2) := by decide +kernel
theorem d_Mo_step_29 : decode c0_Mo_step 29 = .ok (.ireturn, 1) := by decide +kernel
theorem d_Mo_step_30 : decode c0_Mo_step 30 = .ok (.aload_n 0, 1) := by decide +kernel
theorem d_Mo_step_31 : decode c0_Mo_step 31 = .ok (.getfield 131, 3) := by decide +kernel
theorem d_Mo_step_34 : decode c0_Mo_step 34 = .ok (.bipush 10, 2) := by decide +kernel
theorem d_Mo_step_36 : decode c0_Mo_step 36 = .ok (.if_icmp .ne 6, 3) := by decide +kernel
theorem d_Mo_step_39 : decode c0_Mo_step 39 = .ok (.bipush (-3), 2) := by decide +kernel
theorem d_Mo_step_41 : decode c0_Mo_step 41 = .ok (.ireturn, 1) := by decide +kernel
theorem d_Mo_step_42 : decode c0_Mo_step 42 = .ok (.aload_n 0, 1) := by decide +kernel
theorem d_Mo_step_43 : decode c0_Mo_step 43 = .ok (.aload_n 0, 1) := by decide +kernel
theorem d_Mo_step_44 : decode c0_Mo_step 44 = .ok (.getfield 131, 3) := by decide +kernel
theorem d_Mo_step_47 : decode c0_Mo_step 47 = .ok (.iload_n 1, 1) := by decide +kernel
theorem d_Mo_step_48 : decode c0_Mo_step 48 = .ok (.iload_n 2, 1) := by decide +kernel
theorem d_Mo_step_49 : decode c0_Mo_step 49 = .ok (.iload_n 3, 1) := by decide +kernel
theorem d_Mo_step_50 : decode c0_Mo_step 50 = .ok (.iload 4, 2) := by decide +kernel
theorem d_Mo_step_52 : decode c0_Mo_step 52 = .ok (.iload 5, 2) := by decide +kernel
theorem d_Mo_step_54 : decode c0_Mo_step 54 = .ok (.invokevirtual 153, 3) := by decide +kernel
theorem d_Mo_step_57 : decode c0_Mo_step 57 = .ok (.aload_n 0, 1) := by decide +kernel
theorem d_Mo_step_58 : decode c0_Mo_step 58 = .ok (.dup, 1) := by decide +kernel
theorem d_Mo_step_59 : decode c0_Mo_step 59 = .ok (.getfield 131, 3) := by decide +kernel
theorem d_Mo_step_62 : decode c0_Mo_step 62 = .ok (.iconst 1, 1) := by decide +kernel
theorem d_Mo_step_63 : decode c0_Mo_step 63 = .ok (.iadd, 1) := by decide +kernel
theorem d_Mo_step_64 : decode c0_Mo_step 64 = .ok (.putfield 131, 3) := by decide +kernel
theorem d_Mo_step_67 : decode c0_Mo_step 67 = .ok (.aload_n 0, 1) := by decide +kernel
theorem d_Mo_step_68 : decode c0_Mo_step 68 = .ok (.invokevirtual 46, 3) := by decide +kernel
theorem d_Mo_step_71 : decode c0_Mo_step 71 = .ok (.aload_n 0, 1) := by decide +kernel
theorem d_Mo_step_72 : decode c0_Mo_step 72 = .ok (.getfield 131, 3) := by decide +kernel
theorem d_Mo_step_75 : decode c0_Mo_step 75 = .ok (.iconst 1, 1) := by decide +kernel
theorem d_Mo_step_76 : decode c0_Mo_step 76 = .ok (.isub, 1) := by decide +kernel
theorem d_Mo_step_77 : decode c0_Mo_step 77 = .ok (.ireturn, 1) := by decide +kernel
def f_Mo_step (K : Nat → ClassId) (N : Nat) (o : Nat) (a1 : Int32) (a2 : Int32) (a3 : Int32) (a4 : Int32) (a5 : Int32) (h0 : fh_H) : Option (Int32 × fh_H) :=
  (f_Mo_isIn K N a1 0 13 h0).bind fun r1 => if r1.1 = 0 then (some ((-2), r1.2)) else ((fg_i r1.2 (some o) 6 0).bind fun x2 => (f_Mo_areThere K N a1 a2 a3 a4 a5 x2 r1.2).bind fun r3 => if r3.1 = 0 then (some ((-2), r3.2)) else ((fg_i r3.2 (some o) 6 0).bind fun x4 => if x4 = 10 then (some ((-3), r3.2)) else ((fg_i r3.2 (some o) 6 0).bind fun x5 => (fg_o r3.2 (some o) 6).bind fun o6 => (f_Mo_setStep K N o6 x5 a1 a2 a3 a4 a5 r3.2).bind fun r7 => (fg_i r7 (some o) 6 0).bind fun x8 => (fp_v r7 (some o) 6 0 (.int (x8 + 1))).bind fun h9 => (fg_o h9 (some o) 6).bind fun o10 => (f_Mo_drawAll K N o10 h9).bind fun r11 => (fg_i r11 (some o) 6 0).bind fun x12 => some (x12 - 1, r11))))
set_option maxHeartbeats 4000000 in
set_option maxRecDepth 100000 in
theorem c_Mo_step {l : Launch} {D : va_G} {K : Nat → ClassId} {t : Nat → Nat} {N : Nat} {o : Nat} {a1 : Int32} {a2 : Int32} {a3 : Int32} {a4 : Int32} {a5 : Int32} {h0 : fh_H} {res : Int32 × fh_H} (hf : f_Mo_step K N o a1 a2 a3 a4 a5 h0 = some res) : fC l D K t y_Mo_step c0_Mo_step 6 (some .int) rm_Mo_step [.ref o, .int a1, .int a2, .int a3, .int a4, .int a5] h0 (some (.int res.1)) res.2 := by
  refine fh_body (by decide) (Nat.le_of_ble_eq_true rfl) ?_
  intro p e s m below meth c A ls S hr hk hnm hE hAe hI hl
  obtain ⟨hx, hb, hml, hown, hts⟩ := id S
  have hl : lv_has ls 6 [(0, va_rf (some o)), (1, .int a1), (2, .int a2), (3, .int a3), (4, .int a4), (5, .int a5)] := hl
  unfold f_Mo_step at hf
  refine lv_iload_n hx hb d_Mo_step_0 rfl (lv_at hl 1 rfl) ?_
  refine lv_iconst (v := 0) hx hb d_Mo_step_1 (by decide) ?_
  refine lv_bipush (v := 13) hx hb d_Mo_step_2 (by decide) ?_
  obtain ⟨r1, e_r1, hf⟩ := fh_b hf
  refine fh_callS (As := [.int a1, .int 0, .int 13]) (rest := []) S fT_good hE hI (c_Mo_isIn e_r1) fy_Mo_isIn fst_Mo_isIn k_172 ⟨rfl, rfl⟩ ⟨Nat.le_of_ble_eq_true rfl, Nat.le_of_ble_eq_true rfl⟩ ⟨Nat.zero_le _, Nat.zero_le _⟩ rfl hl.1 rfl (Nat.le_of_ble_eq_true rfl) d_Mo_step_4 (fun H locs hI => ?_)
  refine lv_if_eq (tgt := 27) hx hb d_Mo_step_7 (by decide) (fun c_7 => ?_) (fun c_7 => ?_)
  · replace hf := fh_t c_7 hf
    refine lv_bipush (v := (-2)) hx hb d_Mo_step_27 (by decide) ?_
    obtain rfl := Option.some.inj hf
    exact fh_iret S hr hk rfl hAe hI d_Mo_step_29
  · replace hf := fh_f c_7 hf
    refine lv_iload_n hx hb d_Mo_step_10 rfl (lv_at hl 1 rfl) ?_
    refine lv_iload_n hx hb d_Mo_step_11 rfl (lv_at hl 2 rfl) ?_
    refine lv_iload_n hx hb d_Mo_step_12 rfl (lv_at hl 3 rfl) ?_
    refine lv_iload hx hb d_Mo_step_13 (lv_at hl 4 rfl) ?_
    refine lv_iload hx hb d_Mo_step_15 (lv_at hl 5 rfl) ?_
    refine fh_aload_n S d_Mo_step_17 rfl (lv_at hl 0 rfl) ?_
    obtain ⟨x2, e_x2, hf⟩ := fh_b hf
    refine fh_geti S hE.1 hI e_x2 (hc := rfl) (hin := in_6) (by decide) (hts _ k_163) d_Mo_step_18 ?_
    obtain ⟨r3, e_r3, hf⟩ := fh_b hf
    refine fh_callS (As := [.int a1, .int a2, .int a3, .int a4, .int a5, .int x2]) (rest := []) S fT_good hE hI (c_Mo_areThere e_r3) fy_Mo_areThere fst_Mo_areThere k_173 ⟨rfl, rfl⟩ ⟨Nat.le_of_ble_eq_true rfl, Nat.le_of_ble_eq_true rfl⟩ ⟨Nat.zero_le _, Nat.zero_le _⟩ rfl hl.1 rfl (Nat.le_of_ble_eq_true rfl) d_Mo_step_21 (fun H locs hI => ?_)
    refine lv_if_ne (tgt := 30) hx hb d_Mo_step_24 (by decide) (fun c_24 => ?_) (fun c_24 => ?_)
    · replace hf := fh_f c_24 hf
      refine fh_aload_n S d_Mo_step_30 rfl (lv_at hl 0 rfl) ?_
      obtain ⟨x4, e_x4, hf⟩ := fh_b hf
      refine fh_geti S hE.1 hI e_x4 (hc := rfl) (hin := in_6) (by decide) (hts _ k_163) d_Mo_step_31 ?_
      refine lv_bipush (v := 10) hx hb d_Mo_step_34 (by decide) ?_
      refine lv_icmp_ne (tgt := 42) hx hb d_Mo_step_36 (by decide) (fun c_36 => ?_) (fun c_36 => ?_)
      · replace hf := fh_f c_36 hf
        refine fh_aload_n S d_Mo_step_42 rfl (lv_at hl 0 rfl) ?_
        refine fh_aload_n S d_Mo_step_43 rfl (lv_at hl 0 rfl) ?_
        obtain ⟨x5, e_x5, hf⟩ := fh_b hf
        refine fh_geti S hE.1 hI e_x5 (hc := rfl) (hin := in_6) (by decide) (hts _ k_163) d_Mo_step_44 ?_
        refine lv_iload_n hx hb d_Mo_step_47 rfl (lv_at hl 1 rfl) ?_
        refine lv_iload_n hx hb d_Mo_step_48 rfl (lv_at hl 2 rfl) ?_
        refine lv_iload_n hx hb d_Mo_step_49 rfl (lv_at hl 3 rfl) ?_
        refine lv_iload hx hb d_Mo_step_50 (lv_at hl 4 rfl) ?_
        refine lv_iload hx hb d_Mo_step_52 (lv_at hl 5 rfl) ?_
        obtain ⟨o6, e_o6, hf⟩ := fh_b hf
        obtain ⟨r7, e_r7, hf⟩ := fh_b hf
        refine fh_callV (As := [.int x5, .int a1, .int a2, .int a3, .int a4, .int a5]) (rest := []) S fT_good hE hI e_o6 rfl (c_Mo_setStep e_r7) fy_Mo_setStep fst_Mo_setStep k_174 ⟨rfl, rfl⟩ ⟨Nat.le_of_ble_eq_true rfl, Nat.le_of_ble_eq_true rfl⟩ ⟨Nat.zero_le _, Nat.zero_le _⟩ rfl hl.1 rfl (Nat.le_of_ble_eq_true rfl) d_Mo_step_54 (fun H locs hI => ?_)
        refine fh_aload_n S d_Mo_step_57 rfl (lv_at hl 0 rfl) ?_
        refine lv_dup hx hb d_Mo_step_58 fh_rfcat ?_
        obtain ⟨x8, e_x8, hf⟩ := fh_b hf
        refine fh_geti S hE.1 hI e_x8 (hc := rfl) (hin := in_6) (by decide) (hts _ k_163) d_Mo_step_59 ?_
        refine lv_iconst (v := 1) hx hb d_Mo_step_62 (by decide) ?_
        refine lv_iadd hx hb d_Mo_step_63 ?_
        obtain ⟨h9, e_h9, hf⟩ := fh_b hf
        refine fh_putv S hE.1 hI e_h9 (hc := rfl) (hin := in_6) tok_6 nok_6 (by decide) (hts _ k_163) rfl rfl rfl d_Mo_step_64 (fun H locs hI => ?_)
        refine fh_aload_n S d_Mo_step_67 rfl (lv_at hl 0 rfl) ?_
        obtain ⟨o10, e_o10, hf⟩ := fh_b hf
        obtain ⟨r11, e_r11, hf⟩ := fh_b hf
        refine fh_callV (As := []) (rest := []) S fT_good hE hI e_o10 rfl (c_Mo_drawAll e_r11) fy_Mo_drawAll fst_Mo_drawAll k_170 ⟨rfl, rfl⟩ ⟨Nat.le_of_ble_eq_true rfl, Nat.le_of_ble_eq_true rfl⟩ ⟨Nat.zero_le _, Nat.zero_le _⟩ rfl hl.1 rfl (Nat.le_of_ble_eq_true rfl) d_Mo_step_68 (fun H locs hI => ?_)
        refine fh_aload_n S d_Mo_step_71 rfl (lv_at hl 0 rfl) ?_
        obtain ⟨x12, e_x12, hf⟩ := fh_b hf
        refine fh_geti S hE.1 hI e_x12 (hc := rfl) (hin := in_6) (by decide) (hts _ k_163) d_Mo_step_72 ?_
        refine lv_iconst (v := 1) hx hb d_Mo_step_75 (by decide) ?_
        refine lv_isub hx hb d_Mo_step_76 ?_
        obtain rfl := Option.some.inj hf
        exact fh_iret S hr hk rfl hAe hI d_Mo_step_77
      · replace hf := fh_t c_36 hf
        refine lv_bipush (v := (-3)) hx hb d_Mo_step_39 (by decide) ?_
        obtain rfl := Option.some.inj hf
        exact fh_iret S hr hk rfl hAe hI d_Mo_step_41
    · replace hf := fh_t c_24 hf
      refine lv_bipush (v := (-2)) hx hb d_Mo_step_27 (by decide) ?_
      obtain rfl := Option.some.inj hf
      exact fh_iret S hr hk rfl hAe hI d_Mo_step_29
theorem d_Mo_isPoint_0 : decode c0_Mo_isPoint 0 = .ok (.iload_n 1, 1) := by decide +kernel
theorem d_Mo_isPoint_1 : decode c0_Mo_isPoint 1 = .ok (.iconst 0, 1) := by decide +kernel
theorem d_Mo_isPoint_2 : decode c0_Mo_isPoint 2 = .ok (.aload_n 0, 1) := by decide +kernel
theorem d_Mo_isPoint_3 : decode c0_Mo_isPoint 3 = .ok (.getfield 131, 3) := by decide +kernel
theorem d_Mo_isPoint_6 : decode c0_Mo_isPoint 6 = .ok (.iconst 1, 1) := by decide +kernel
theorem d_Mo_isPoint_7 : decode c0_Mo_isPoint 7 = .ok (.isub, 1) := by decide +kernel
theorem d_Mo_isPoint_8 : decode c0_Mo_isPoint 8 = .ok (.invokestatic 145, 3) := by decide +kernel
theorem d_Mo_isPoint_11 : decode c0_Mo_isPoint 11 = .ok (.ireturn, 1) := by decide +kernel
def f_Mo_isPoint (K : Nat → ClassId) (N : Nat) (o : Nat) (a1 : Int32) (h0 : fh_H) : Option (Int32 × fh_H) :=
  (fg_i h0 (some o) 6 0).bind fun x1 => (f_Mo_isIn K N a1 0 (x1 - 1) h0).bind fun r2 => fz r2.1 r2.2
set_option maxHeartbeats 4000000 in
set_option maxRecDepth 100000 in
theorem c_Mo_isPoint {l : Launch} {D : va_G} {K : Nat → ClassId} {t : Nat → Nat} {N : Nat} {o : Nat} {a1 : Int32} {h0 : fh_H} {res : Int32 × fh_H} (hf : f_Mo_isPoint K N o a1 h0 = some res) : fC l D K t y_Mo_isPoint c0_Mo_isPoint 2 (some .boolean) rm_Mo_isPoint [.ref o, .int a1] h0 (some (.int res.1)) res.2 := by
  refine fh_body (by decide) (Nat.le_of_ble_eq_true rfl) ?_
  intro p e s m below meth c A ls S hr hk hnm hE hAe hI hl
  obtain ⟨hx, hb, hml, hown, hts⟩ := id S
  have hl : lv_has ls 2 [(0, va_rf (some o)), (1, .int a1)] := hl
  unfold f_Mo_isPoint at hf
  refine lv_iload_n hx hb d_Mo_isPoint_0 rfl (lv_at hl 1 rfl) ?_
  refine lv_iconst (v := 0) hx hb d_Mo_isPoint_1 (by decide) ?_
  refine fh_aload_n S d_Mo_isPoint_2 rfl (lv_at hl 0 rfl) ?_
  obtain ⟨x1, e_x1, hf⟩ := fh_b hf
  refine fh_geti S hE.1 hI e_x1 (hc := rfl) (hin := in_6) (by decide) (hts _ k_163) d_Mo_isPoint_3 ?_
  refine lv_iconst (v := 1) hx hb d_Mo_isPoint_6 (by decide) ?_
  refine lv_isub hx hb d_Mo_isPoint_7 ?_
  obtain ⟨r2, e_r2, hf⟩ := fh_b hf
  refine fh_callS (As := [.int a1, .int 0, .int (x1 - 1)]) (rest := []) S fT_good hE hI (c_Mo_isIn e_r2) fy_Mo_isIn fst_Mo_isIn k_172 ⟨rfl, rfl⟩ ⟨Nat.le_of_ble_eq_true rfl, Nat.le_of_ble_eq_true rfl⟩ ⟨Nat.zero_le _, Nat.zero_le _⟩ rfl hl.1 rfl (Nat.le_of_ble_eq_true rfl) d_Mo_isPoint_8 (fun H locs hI => ?_)
  obtain ⟨hz, rfl⟩ := fz_s hf
  exact fh_iret S hr hk (fh_nb hz) hAe hI d_Mo_isPoint_11
theorem d_Mo_change_0 : decode c0_Mo_change 0 = .ok (.aload_n 0, 1) := by decide +kernel
theorem d_Mo_change_1 : decode c0_Mo_change 1 = .ok (.iload_n 1, 1) := by decide +kernel
theorem d_Mo_change_2 : decode c0_Mo_change 2 = .ok (.invokevirtual 157, 3) := by decide +kernel
theorem d_Mo_change_5 : decode c0_Mo_change 5 = .ok (.ifCond .eq 28, 3) := by decide +kernel
theorem d_Mo_change_8 : decode c0_Mo_change 8 = .ok (.iload_n 2, 1) := by decide +kernel
theorem d_Mo_change_9 : decode c0_Mo_change 9 = .ok (.iconst 0, 1) := by decide +kernel
theorem d_Mo_change_10 : decode c0_Mo_change 10 = .ok (.bipush 13, 2) := by decide +kernel
theorem d_Mo_change_12 : decode c0_Mo_change 12 = .ok (.invokestatic 145, 3) := by decide +kernel
theorem d_Mo_change_15 : decode c0_Mo_change 15 = .ok (.ifCond .eq 18, 3) := by decide +kernel
theorem d_Mo_change_18 : decode c0_Mo_change 18 = .ok (.iload_n 2, 1) := by decide +kernel
theorem d_Mo_change_19 : decode c0_Mo_change 19 = .ok (.iload_n 3, 1) := by decide +kernel
theorem d_Mo_change_20 : decode c0_Mo_change 20 = .ok (.iload 4, 2) := by decide +kernel
theorem d_Mo_change_22 : decode c0_Mo_change 22 = .ok (.iload 5, 2) := by decide +kernel
theorem d_Mo_change_24 : decode c0_Mo_change 24 = .ok (.iload 6, 2) := by decide +kernel
theorem d_Mo_change_26 : decode c0_Mo_change 26 = .ok (.iload_n 1, 1) := by decide +kernel
theorem d_Mo_change_27 : decode c0_Mo_change 27 = .ok (.invokestatic 149, 3) := by decide +kernel
theorem d_Mo_change_30 : decode c0_Mo_change 30 = .ok (.ifCond .ne 6, 3) := by decide +kernel
theorem d_Mo_change_33 : decode c0_Mo_change 33 = .ok (.bipush (-2), 2) := by decide +kernel
theorem d_Mo_change_35 : decode c0_Mo_change 35 = .ok (.ireturn, 1) := by decide +kernel
theorem d_Mo_change_36 : decode c0_Mo_change 36 = .ok (.aload_n 0, 1) := by decide +kernel
theorem d_Mo_change_37 : decode c0_Mo_change 37 = .ok (.getfield 7, 3) := by decide +kernel
theorem d_Mo_change_40 : decode c0_Mo_change 40 = .ok (.iload_n 1, 1) := by decide +kernel
theorem d_Mo_change_41 : decode c0_Mo_change 41 = .ok (.iaload, 1) := by decide +kernel
theorem d_Mo_change_42 : decode c0_Mo_change 42 = .ok (.istore 7, 2) := by decide +kernel
theorem d_Mo_change_44 : decode c0_Mo_change 44 = .ok (.aload_n 0, 1) := by decide +kernel
theorem d_Mo_change_45 : decode c0_Mo_change 45 = .ok (.iload_n 1, 1) := by decide +kernel
theorem d_Mo_change_46 : decode c0_Mo_change 46 = .ok (.iload_n 2, 1) := by decide +kernel
theorem d_Mo_change_47 : decode c0_Mo_change 47 = .ok (.iload_n 3, 1) := by decide +kernel
theorem d_Mo_change_48 : decode c0_Mo_change 48 = .ok (.iload 4, 2) := by decide +kernel
theorem d_Mo_change_50 : decode c0_Mo_change 50 = .ok (.iload 5, 2) := by decide +kernel
theorem d_Mo_change_52 : decode c0_Mo_change 52 = .ok (.iload 6, 2) := by decide +kernel
theorem d_Mo_change_54 : decode c0_Mo_change 54 = .ok (.invokevirtual 153, 3) := by decide +kernel
theorem d_Mo_change_57 : decode c0_Mo_change 57 = .ok (.aload_n 0, 1) := by decide +kernel
theorem d_Mo_change_58 : decode c0_Mo_change 58 = .ok (.invokevirtual 46, 3) := by decide +kernel
theorem d_Mo_change_61 : decode c0_Mo_change 61 = .ok (.iload 7, 2) := by decide +kernel
theorem d_Mo_change_63 : decode c0_Mo_change 63 = .ok (.ireturn, 1) := by decide +kernel
def f_Mo_change (K : Nat → ClassId) (N : Nat) (o : Nat) (a1 : Int32) (a2 : Int32) (a3 : Int32) (a4 : Int32) (a5 : Int32) (a6 : Int32) (h0 : fh_H) : Option (Int32 × fh_H) :=
  (fg_o h0 (some o) 6).bind fun o1 => (f_Mo_isPoint K N o1 a1 h0).bind fun r2 => if r2.1 = 0 then (some ((-2), r2.2)) else ((f_Mo_isIn K N a2 0 13 r2.2).bind fun r3 => if r3.1 = 0 then (some ((-2), r3.2)) else ((f_Mo_areThere K N a2 a3 a4 a5 a6 a1 r3.2).bind fun r4 => if r4.1 = 0 then (some ((-2), r4.2)) else ((fg_a r4.2 (some o) 6 1).bind fun x5 => (fa_i (K 0) r4.2 x5 a1).bind fun x6 => (fg_o r4.2 (some o) 6).bind fun o7 => (f_Mo_setStep K N o7 a1 a2 a3 a4 a5 a6 r4.2).bind fun r8 => (fg_o r8 (some o) 6).bind fun o9 => (f_Mo_drawAll K N o9 r8).bind fun r10 => some (x6, r10))))
set_option maxHeartbeats 4000000 in
set_option maxRecDepth 100000 in
theorem c_Mo_change {l : Launch} {D : va_G} {K : Nat → ClassId} {t : Nat → Nat} {N : Nat} {o : Nat} {a1 : Int32} {a2 : Int32} {a3 : Int32} {a4 : Int32} {a5 : Int32} {a6 : Int32} {h0 : fh_H} {res : Int32 × fh_H} (hf : f_Mo_change K N o a1 a2 a3 a4 a5 a6 h0 = some res) : fC l D K t y_Mo_change c0_Mo_change 8 (some .int) rm_Mo_change [.ref o, .int a1, .int a2, .int a3, .int a4, .int a5, .int a6] h0 (some (.int res.1)) res.2 := by
  refine fh_body (by decide) (Nat.le_of_ble_eq_true rfl) ?_
  intro p e s m below meth c A ls S hr hk hnm hE hAe hI hl
  obtain ⟨hx, hb, hml, hown, hts⟩ := id S
  have hl : lv_has ls 8 [(0, va_rf (some o)), (1, .int a1), (2, .int a2), (3, .int a3), (4, .int a4), (5, .int a5), (6, .int a6)] := hl
  unfold f_Mo_change at hf
  refine fh_aload_n S d_Mo_change_0 rfl (lv_at hl 0 rfl) ?_
  refine lv_iload_n hx hb d_Mo_change_1 rfl (lv_at hl 1 rfl) ?_
  obtain ⟨o1, e_o1, hf⟩ := fh_b hf
  obtain ⟨r2, e_r2, hf⟩ := fh_b hf
  refine fh_callV (As := [.int a1]) (rest := []) S fT_good hE hI e_o1 rfl (c_Mo_isPoint e_r2) fy_Mo_isPoint fst_Mo_isPoint k_175 ⟨rfl, rfl⟩ ⟨Nat.le_of_ble_eq_true rfl, Nat.le_of_ble_eq_true rfl⟩ ⟨Nat.zero_le _, Nat.zero_le _⟩ rfl hl.1 rfl (Nat.le_of_ble_eq_true rfl) d_Mo_change_2 (fun H locs hI => ?_)
  refine lv_if_eq (tgt := 33) hx hb d_Mo_change_5 (by decide) (fun c_5 => ?_) (fun c_5 => ?_)
  · replace hf := fh_t c_5 hf
    refine lv_bipush (v := (-2)) hx hb d_Mo_change_33 (by decide) ?_
    obtain rfl := Option.some.inj hf
    exact fh_iret S hr hk rfl hAe hI d_Mo_change_35
  · replace hf := fh_f c_5 hf
    refine lv_iload_n hx hb d_Mo_change_8 rfl (lv_at hl 2 rfl) ?_
    refine lv_iconst (v := 0) hx hb d_Mo_change_9 (by decide) ?_
    refine lv_bipush (v := 13) hx hb d_Mo_change_10 (by decide) ?_
    obtain ⟨r3, e_r3, hf⟩ := fh_b hf
    refine fh_callS (As := [.int a2, .int 0, .int 13]) (rest := []) S fT_good hE hI (c_Mo_isIn e_r3) fy_Mo_isIn fst_Mo_isIn k_172 ⟨rfl, rfl⟩ ⟨Nat.le_of_ble_eq_true rfl, Nat.le_of_ble_eq_true rfl⟩ ⟨Nat.zero_le _, Nat.zero_le _⟩ rfl hl.1 rfl (Nat.le_of_ble_eq_true rfl) d_Mo_change_12 (fun H locs hI => ?_)
    refine lv_if_eq (tgt := 33) hx hb d_Mo_change_15 (by decide) (fun c_15 => ?_) (fun c_15 => ?_)
    · replace hf := fh_t c_15 hf
      refine lv_bipush (v := (-2)) hx hb d_Mo_change_33 (by decide) ?_
      obtain rfl := Option.some.inj hf
      exact fh_iret S hr hk rfl hAe hI d_Mo_change_35
    · replace hf := fh_f c_15 hf
      refine lv_iload_n hx hb d_Mo_change_18 rfl (lv_at hl 2 rfl) ?_
      refine lv_iload_n hx hb d_Mo_change_19 rfl (lv_at hl 3 rfl) ?_
      refine lv_iload hx hb d_Mo_change_20 (lv_at hl 4 rfl) ?_
      refine lv_iload hx hb d_Mo_change_22 (lv_at hl 5 rfl) ?_
      refine lv_iload hx hb d_Mo_change_24 (lv_at hl 6 rfl) ?_
      refine lv_iload_n hx hb d_Mo_change_26 rfl (lv_at hl 1 rfl) ?_
      obtain ⟨r4, e_r4, hf⟩ := fh_b hf
      refine fh_callS (As := [.int a2, .int a3, .int a4, .int a5, .int a6, .int a1]) (rest := []) S fT_good hE hI (c_Mo_areThere e_r4) fy_Mo_areThere fst_Mo_areThere k_173 ⟨rfl, rfl⟩ ⟨Nat.le_of_ble_eq_true rfl, Nat.le_of_ble_eq_true rfl⟩ ⟨Nat.zero_le _, Nat.zero_le _⟩ rfl hl.1 rfl (Nat.le_of_ble_eq_true rfl) d_Mo_change_27 (fun H locs hI => ?_)
      refine lv_if_ne (tgt := 36) hx hb d_Mo_change_30 (by decide) (fun c_30 => ?_) (fun c_30 => ?_)
      · replace hf := fh_f c_30 hf
        refine fh_aload_n S d_Mo_change_36 rfl (lv_at hl 0 rfl) ?_
        obtain ⟨x5, e_x5, hf⟩ := fh_b hf
        refine fh_geta S hE.1 hI e_x5 (hc := rfl) (hin := in_6) (by decide) (hts _ k_164) d_Mo_change_37 ?_
        refine lv_iload_n hx hb d_Mo_change_40 rfl (lv_at hl 1 rfl) ?_
        obtain ⟨x6, e_x6, hf⟩ := fh_b hf
        refine fh_iald S hE.1 hI 0 rfl e_x6 d_Mo_change_41 ?_
        refine lv_istore (lv' := [(7, .int x6), (0, va_rf (some o)), (1, .int a1), (2, .int a2), (3, .int a3), (4, .int a4), (5, .int a5), (6, .int a6)]) hx hb d_Mo_change_42 hl (by decide) rfl (fun ls hl => ?_)
        refine fh_aload_n S d_Mo_change_44 rfl (lv_at hl 1 rfl) ?_
        refine lv_iload_n hx hb d_Mo_change_45 rfl (lv_at hl 2 rfl) ?_
        refine lv_iload_n hx hb d_Mo_change_46 rfl (lv_at hl 3 rfl) ?_
        refine lv_iload_n hx hb d_Mo_change_47 rfl (lv_at hl 4 rfl) ?_
        refine lv_iload hx hb d_Mo_change_48 (lv_at hl 5 rfl) ?_
        refine lv_iload hx hb d_Mo_change_50 (lv_at hl 6 rfl) ?_
        refine lv_iload hx hb d_Mo_change_52 (lv_at hl 7 rfl) ?_
        obtain ⟨o7, e_o7, hf⟩ := fh_b hf
        obtain ⟨r8, e_r8, hf⟩ := fh_b hf
        refine fh_callV (As := [.int a1, .int a2, .int a3, .int a4, .int a5, .int a6]) (rest := []) S fT_good hE hI e_o7 rfl (c_Mo_setStep e_r8) fy_Mo_setStep fst_Mo_setStep k_174 ⟨rfl, rfl⟩ ⟨Nat.le_of_ble_eq_true rfl, Nat.le_of_ble_eq_true rfl⟩ ⟨Nat.zero_le _, Nat.zero_le _⟩ rfl hl.1 rfl (Nat.le_of_ble_eq_true rfl) d_Mo_change_54 (fun H locs hI => ?_)
        refine fh_aload_n S d_Mo_change_57 rfl (lv_at hl 1 rfl) ?_
        obtain ⟨o9, e_o9, hf⟩ := fh_b hf
        obtain ⟨r10, e_r10, hf⟩ := fh_b hf
        refine fh_callV (As := []) (rest := []) S fT_good hE hI e_o9 rfl (c_Mo_drawAll e_r10) fy_Mo_drawAll fst_Mo_drawAll k_170 ⟨rfl, rfl⟩ ⟨Nat.le_of_ble_eq_true rfl, Nat.le_of_ble_eq_true rfl⟩ ⟨Nat.zero_le _, Nat.zero_le _⟩ rfl hl.1 rfl (Nat.le_of_ble_eq_true rfl) d_Mo_change_58 (fun H locs hI => ?_)
        refine lv_iload hx hb d_Mo_change_61 (lv_at hl 0 rfl) ?_
        obtain rfl := Option.some.inj hf
        exact fh_iret S hr hk rfl hAe hI d_Mo_change_63
      · replace hf := fh_t c_30 hf
        refine lv_bipush (v := (-2)) hx hb d_Mo_change_33 (by decide) ?_
        obtain rfl := Option.some.inj hf
        exact fh_iret S hr hk rfl hAe hI d_Mo_change_35
theorem d_Mo_draw_0 : decode c0_Mo_draw 0 = .ok (.iload_n 1, 1) := by decide +kernel
theorem d_Mo_draw_1 : decode c0_Mo_draw 1 = .ok (.iconst 1, 1) := by decide +kernel
theorem d_Mo_draw_2 : decode c0_Mo_draw 2 = .ok (.ldc 161, 2) := by decide +kernel
theorem d_Mo_draw_4 : decode c0_Mo_draw 4 = .ok (.invokestatic 145, 3) := by decide +kernel
theorem d_Mo_draw_7 : decode c0_Mo_draw 7 = .ok (.ifCond .eq 12, 3) := by decide +kernel
theorem d_Mo_draw_10 : decode c0_Mo_draw 10 = .ok (.iload_n 2, 1) := by decide +kernel
theorem d_Mo_draw_11 : decode c0_Mo_draw 11 = .ok (.iconst 1, 1) := by decide +kernel
theorem d_Mo_draw_12 : decode c0_Mo_draw 12 = .ok (.iconst 5, 1) := by decide +kernel
theorem d_Mo_draw_13 : decode c0_Mo_draw 13 = .ok (.invokestatic 145, 3) := by decide +kernel
theorem d_Mo_draw_16 : decode c0_Mo_draw 16 = .ok (.ifCond .ne 6, 3) := by decide +kernel
theorem d_Mo_draw_19 : decode c0_Mo_draw 19 = .ok (.bipush (-2), 2) := by decide +kernel
theorem d_Mo_draw_21 : decode c0_Mo_draw 21 = .ok (.ireturn, 1) := by decide +kernel
theorem d_Mo_draw_22 : decode c0_Mo_draw 22 = .ok (.aload_n 0, 1) := by decide +kernel
theorem d_Mo_draw_23 : decode c0_Mo_draw 23 = .ok (.iload_n 1, 1) := by decide +kernel
theorem d_Mo_draw_24 : decode c0_Mo_draw 24 = .ok (.putfield 16, 3) := by decide +kernel
theorem d_Mo_draw_27 : decode c0_Mo_draw 27 = .ok (.aload_n 0, 1) := by decide +kernel
theorem d_Mo_draw_28 : decode c0_Mo_draw 28 = .ok (.iload_n 2, 1) := by decide +kernel
theorem d_Mo_draw_29 : decode c0_Mo_draw 29 = .ok (.putfield 20, 3) := by decide +kernel
theorem d_Mo_draw_32 : decode c0_Mo_draw 32 = .ok (.aload_n 0, 1) := by decide +kernel
theorem d_Mo_draw_33 : decode c0_Mo_draw 33 = .ok (.invokevirtual 46, 3) := by decide +kernel
theorem d_Mo_draw_36 : decode c0_Mo_draw 36 = .ok (.aload_n 0, 1) := by decide +kernel
theorem d_Mo_draw_37 : decode c0_Mo_draw 37 = .ok (.invokevirtual 162, 3) := by decide +kernel
theorem d_Mo_draw_40 : decode c0_Mo_draw 40 = .ok (.ireturn, 1) := by decide +kernel
def f_Mo_draw (K : Nat → ClassId) (N : Nat) (o : Nat) (a1 : Int32) (a2 : Int32) (h0 : fh_H) : Option (Int32 × fh_H) :=
  (f_Mo_isIn K N a1 1 1000000 h0).bind fun r1 => if r1.1 = 0 then (some ((-2), r1.2)) else ((f_Mo_isIn K N a2 1 5 r1.2).bind fun r2 => if r2.1 = 0 then (some ((-2), r2.2)) else ((fp_v r2.2 (some o) 6 3 (.int a1)).bind fun h3 => (fp_v h3 (some o) 6 4 (.int a2)).bind fun h4 => (fg_o h4 (some o) 6).bind fun o5 => (f_Mo_drawAll K N o5 h4).bind fun r6 => (fg_o r6 (some o) 6).bind fun o7 => (f_Mo_standing K N o7 r6).bind fun r8 => some (r8.1, r8.2)))
set_option maxHeartbeats 4000000 in
set_option maxRecDepth 100000 in
theorem c_Mo_draw {l : Launch} {D : va_G} {K : Nat → ClassId} {t : Nat → Nat} {N : Nat} {o : Nat} {a1 : Int32} {a2 : Int32} {h0 : fh_H} {res : Int32 × fh_H} (hf : f_Mo_draw K N o a1 a2 h0 = some res) : fC l D K t y_Mo_draw c0_Mo_draw 3 (some .int) rm_Mo_draw [.ref o, .int a1, .int a2] h0 (some (.int res.1)) res.2 := by
  refine fh_body (by decide) (Nat.le_of_ble_eq_true rfl) ?_
  intro p e s m below meth c A ls S hr hk hnm hE hAe hI hl
  obtain ⟨hx, hb, hml, hown, hts⟩ := id S
  have hl : lv_has ls 3 [(0, va_rf (some o)), (1, .int a1), (2, .int a2)] := hl
  unfold f_Mo_draw at hf
  refine lv_iload_n hx hb d_Mo_draw_0 rfl (lv_at hl 1 rfl) ?_
  refine lv_iconst (v := 1) hx hb d_Mo_draw_1 (by decide) ?_
  refine lv_ldc hx hb hown (hts _ k_177) d_Mo_draw_2 ?_
  obtain ⟨r1, e_r1, hf⟩ := fh_b hf
  refine fh_callS (As := [.int a1, .int 1, .int 1000000]) (rest := []) S fT_good hE hI (c_Mo_isIn e_r1) fy_Mo_isIn fst_Mo_isIn k_172 ⟨rfl, rfl⟩ ⟨Nat.le_of_ble_eq_true rfl, Nat.le_of_ble_eq_true rfl⟩ ⟨Nat.zero_le _, Nat.zero_le _⟩ rfl hl.1 rfl (Nat.le_of_ble_eq_true rfl) d_Mo_draw_4 (fun H locs hI => ?_)
  refine lv_if_eq (tgt := 19) hx hb d_Mo_draw_7 (by decide) (fun c_7 => ?_) (fun c_7 => ?_)
  · replace hf := fh_t c_7 hf
    refine lv_bipush (v := (-2)) hx hb d_Mo_draw_19 (by decide) ?_
    obtain rfl := Option.some.inj hf
    exact fh_iret S hr hk rfl hAe hI d_Mo_draw_21
  · replace hf := fh_f c_7 hf
    refine lv_iload_n hx hb d_Mo_draw_10 rfl (lv_at hl 2 rfl) ?_
    refine lv_iconst (v := 1) hx hb d_Mo_draw_11 (by decide) ?_
    refine lv_iconst (v := 5) hx hb d_Mo_draw_12 (by decide) ?_
    obtain ⟨r2, e_r2, hf⟩ := fh_b hf
    refine fh_callS (As := [.int a2, .int 1, .int 5]) (rest := []) S fT_good hE hI (c_Mo_isIn e_r2) fy_Mo_isIn fst_Mo_isIn k_172 ⟨rfl, rfl⟩ ⟨Nat.le_of_ble_eq_true rfl, Nat.le_of_ble_eq_true rfl⟩ ⟨Nat.zero_le _, Nat.zero_le _⟩ rfl hl.1 rfl (Nat.le_of_ble_eq_true rfl) d_Mo_draw_13 (fun H locs hI => ?_)
    refine lv_if_ne (tgt := 22) hx hb d_Mo_draw_16 (by decide) (fun c_16 => ?_) (fun c_16 => ?_)
    · replace hf := fh_f c_16 hf
      refine fh_aload_n S d_Mo_draw_22 rfl (lv_at hl 0 rfl) ?_
      refine lv_iload_n hx hb d_Mo_draw_23 rfl (lv_at hl 1 rfl) ?_
      obtain ⟨h3, e_h3, hf⟩ := fh_b hf
      refine fh_putv S hE.1 hI e_h3 (hc := rfl) (hin := in_6) tok_6 nok_6 (by decide) (hts _ k_161) rfl rfl rfl d_Mo_draw_24 (fun H locs hI => ?_)
      refine fh_aload_n S d_Mo_draw_27 rfl (lv_at hl 0 rfl) ?_
      refine lv_iload_n hx hb d_Mo_draw_28 rfl (lv_at hl 2 rfl) ?_
      obtain ⟨h4, e_h4, hf⟩ := fh_b hf
      refine fh_putv S hE.1 hI e_h4 (hc := rfl) (hin := in_6) tok_6 nok_6 (by decide) (hts _ k_168) rfl rfl rfl d_Mo_draw_29 (fun H locs hI => ?_)
      refine fh_aload_n S d_Mo_draw_32 rfl (lv_at hl 0 rfl) ?_
      obtain ⟨o5, e_o5, hf⟩ := fh_b hf
      obtain ⟨r6, e_r6, hf⟩ := fh_b hf
      refine fh_callV (As := []) (rest := []) S fT_good hE hI e_o5 rfl (c_Mo_drawAll e_r6) fy_Mo_drawAll fst_Mo_drawAll k_170 ⟨rfl, rfl⟩ ⟨Nat.le_of_ble_eq_true rfl, Nat.le_of_ble_eq_true rfl⟩ ⟨Nat.zero_le _, Nat.zero_le _⟩ rfl hl.1 rfl (Nat.le_of_ble_eq_true rfl) d_Mo_draw_33 (fun H locs hI => ?_)
      refine fh_aload_n S d_Mo_draw_36 rfl (lv_at hl 0 rfl) ?_
      obtain ⟨o7, e_o7, hf⟩ := fh_b hf
      obtain ⟨r8, e_r8, hf⟩ := fh_b hf
      refine fh_callV (As := []) (rest := []) S fT_good hE hI e_o7 rfl (c_Mo_standing e_r8) fy_Mo_standing fst_Mo_standing k_176 ⟨rfl, rfl⟩ ⟨Nat.le_of_ble_eq_true rfl, Nat.le_of_ble_eq_true rfl⟩ ⟨Nat.zero_le _, Nat.zero_le _⟩ rfl hl.1 rfl (Nat.le_of_ble_eq_true rfl) d_Mo_draw_37 (fun H locs hI => ?_)
      obtain rfl := Option.some.inj hf
      exact fh_iret S hr hk rfl hAe hI d_Mo_draw_40
    · replace hf := fh_t c_16 hf
      refine lv_bipush (v := (-2)) hx hb d_Mo_draw_19 (by decide) ?_
      obtain rfl := Option.some.inj hf
      exact fh_iret S hr hk rfl hAe hI d_Mo_draw_21
theorem d_Mo_setRow_0 : decode c0_Mo_setRow 0 = .ok (.aload_n 0, 1) := by decide +kernel
theorem d_Mo_setRow_1 : decode c0_Mo_setRow 1 = .ok (.getfield 33, 3) := by decide +kernel
theorem d_Mo_setRow_4 : decode c0_Mo_setRow 4 = .ok (.iconst 0, 1) := by decide +kernel
theorem d_Mo_setRow_5 : decode c0_Mo_setRow 5 = .ok (.iload_n 1, 1) := by decide +kernel
theorem d_Mo_setRow_6 : decode c0_Mo_setRow 6 = .ok (.iastore, 1) := by decide +kernel
theorem d_Mo_setRow_7 : decode c0_Mo_setRow 7 = .ok (.aload_n 0, 1) := by decide +kernel
theorem d_Mo_setRow_8 : decode c0_Mo_setRow 8 = .ok (.getfield 33, 3) := by decide +kernel
theorem d_Mo_setRow_11 : decode c0_Mo_setRow 11 = .ok (.iconst 1, 1) := by decide +kernel
theorem d_Mo_setRow_12 : decode c0_Mo_setRow 12 = .ok (.iload_n 2, 1) := by decide +kernel
theorem d_Mo_setRow_13 : decode c0_Mo_setRow 13 = .ok (.iastore, 1) := by decide +kernel
theorem d_Mo_setRow_14 : decode c0_Mo_setRow 14 = .ok (.aload_n 0, 1) := by decide +kernel
theorem d_Mo_setRow_15 : decode c0_Mo_setRow 15 = .ok (.getfield 33, 3) := by decide +kernel
theorem d_Mo_setRow_18 : decode c0_Mo_setRow 18 = .ok (.iconst 2, 1) := by decide +kernel
theorem d_Mo_setRow_19 : decode c0_Mo_setRow 19 = .ok (.iload_n 3, 1) := by decide +kernel
theorem d_Mo_setRow_20 : decode c0_Mo_setRow 20 = .ok (.iastore, 1) := by decide +kernel
theorem d_Mo_setRow_21 : decode c0_Mo_setRow 21 = .ok (.aload_n 0, 1) := by decide +kernel
theorem d_Mo_setRow_22 : decode c0_Mo_setRow 22 = .ok (.getfield 33, 3) := by decide +kernel
theorem d_Mo_setRow_25 : decode c0_Mo_setRow 25 = .ok (.iconst 3, 1) := by decide +kernel
theorem d_Mo_setRow_26 : decode c0_Mo_setRow 26 = .ok (.iload 4, 2) := by decide +kernel
theorem d_Mo_setRow_28 : decode c0_Mo_setRow 28 = .ok (.iastore, 1) := by decide +kernel
theorem d_Mo_setRow_29 : decode c0_Mo_setRow 29 = .ok (.aload_n 0, 1) := by decide +kernel
theorem d_Mo_setRow_30 : decode c0_Mo_setRow 30 = .ok (.getfield 33, 3) := by decide +kernel
theorem d_Mo_setRow_33 : decode c0_Mo_setRow 33 = .ok (.iconst 4, 1) := by decide +kernel
theorem d_Mo_setRow_34 : decode c0_Mo_setRow 34 = .ok (.iload 5, 2) := by decide +kernel
theorem d_Mo_setRow_36 : decode c0_Mo_setRow 36 = .ok (.iastore, 1) := by decide +kernel
theorem d_Mo_setRow_37 : decode c0_Mo_setRow 37 = .ok (.aload_n 0, 1) := by decide +kernel
theorem d_Mo_setRow_38 : decode c0_Mo_setRow 38 = .ok (.getfield 33, 3) := by decide +kernel
theorem d_Mo_setRow_41 : decode c0_Mo_setRow 41 = .ok (.iconst 5, 1) := by decide +kernel
theorem d_Mo_setRow_42 : decode c0_Mo_setRow 42 = .ok (.iload 6, 2) := by decide +kernel
theorem d_Mo_setRow_44 : decode c0_Mo_setRow 44 = .ok (.iastore, 1) := by decide +kernel
theorem d_Mo_setRow_45 : decode c0_Mo_setRow 45 = .ok (.return_, 1) := by decide +kernel
def f_Mo_setRow (K : Nat → ClassId) (N : Nat) (o : Nat) (a1 : Int32) (a2 : Int32) (a3 : Int32) (a4 : Int32) (a5 : Int32) (a6 : Int32) (h0 : fh_H) : Option (fh_H) :=
  (fg_a h0 (some o) 6 13).bind fun x1 => (fs_i (K 0) h0 x1 0 a1).bind fun h2 => (fg_a h2 (some o) 6 13).bind fun x3 => (fs_i (K 0) h2 x3 1 a2).bind fun h4 => (fg_a h4 (some o) 6 13).bind fun x5 => (fs_i (K 0) h4 x5 2 a3).bind fun h6 => (fg_a h6 (some o) 6 13).bind fun x7 => (fs_i (K 0) h6 x7 3 a4).bind fun h8 => (fg_a h8 (some o) 6 13).bind fun x9 => (fs_i (K 0) h8 x9 4 a5).bind fun h10 => (fg_a h10 (some o) 6 13).bind fun x11 => (fs_i (K 0) h10 x11 5 a6).bind fun h12 => some h12
set_option maxHeartbeats 4000000 in
set_option maxRecDepth 100000 in
theorem c_Mo_setRow {l : Launch} {D : va_G} {K : Nat → ClassId} {t : Nat → Nat} {N : Nat} {o : Nat} {a1 : Int32} {a2 : Int32} {a3 : Int32} {a4 : Int32} {a5 : Int32} {a6 : Int32} {h0 : fh_H} {res : fh_H} (hf : f_Mo_setRow K N o a1 a2 a3 a4 a5 a6 h0 = some res) : fC l D K t y_Mo_setRow c0_Mo_setRow 7 none rm_Mo_setRow [.ref o, .int a1, .int a2, .int a3, .int a4, .int a5, .int a6] h0 (none) res := by
  refine fh_body (by decide) (Nat.le_of_ble_eq_true rfl) ?_
  intro p e s m below meth c A ls S hr hk hnm hE hAe hI hl
  obtain ⟨hx, hb, hml, hown, hts⟩ := id S
  have hl : lv_has ls 7 [(0, va_rf (some o)), (1, .int a1), (2, .int a2), (3, .int a3), (4, .int a4), (5, .int a5), (6, .int a6)] := hl
  unfold f_Mo_setRow at hf
  refine fh_aload_n S d_Mo_setRow_0 rfl (lv_at hl 0 rfl) ?_
  obtain ⟨x1, e_x1, hf⟩ := fh_b hf
  refine fh_geta S hE.1 hI e_x1 (hc := rfl) (hin := in_6) (by decide) (hts _ k_178) d_Mo_setRow_1 ?_
  refine lv_iconst (v := 0) hx hb d_Mo_setRow_4 (by decide) ?_
  refine lv_iload_n hx hb d_Mo_setRow_5 rfl (lv_at hl 1 rfl) ?_
  obtain ⟨h2, e_h2, hf⟩ := fh_b hf
  refine fh_iast S hE.1 hI 0 rfl e_h2 d_Mo_setRow_6 (fun H locs hI => ?_)
  refine fh_aload_n S d_Mo_setRow_7 rfl (lv_at hl 0 rfl) ?_
  obtain ⟨x3, e_x3, hf⟩ := fh_b hf
  refine fh_geta S hE.1 hI e_x3 (hc := rfl) (hin := in_6) (by decide) (hts _ k_178) d_Mo_setRow_8 ?_
  refine lv_iconst (v := 1) hx hb d_Mo_setRow_11 (by decide) ?_
  refine lv_iload_n hx hb d_Mo_setRow_12 rfl (lv_at hl 2 rfl) ?_
  obtain ⟨h4, e_h4, hf⟩ := fh_b hf
  refine fh_iast S hE.1 hI 0 rfl e_h4 d_Mo_setRow_13 (fun H locs hI => ?_)
  refine fh_aload_n S d_Mo_setRow_14 rfl (lv_at hl 0 rfl) ?_
  obtain ⟨x5, e_x5, hf⟩ := fh_b hf
  refine fh_geta S hE.1 hI e_x5 (hc := rfl) (hin := in_6) (by decide) (hts _ k_178) d_Mo_setRow_15 ?_
  refine lv_iconst (v := 2) hx hb d_Mo_setRow_18 (by decide) ?_
  refine lv_iload_n hx hb d_Mo_setRow_19 rfl (lv_at hl 3 rfl) ?_
  obtain ⟨h6, e_h6, hf⟩ := fh_b hf
  refine fh_iast S hE.1 hI 0 rfl e_h6 d_Mo_setRow_20 (fun H locs hI => ?_)
  refine fh_aload_n S d_Mo_setRow_21 rfl (lv_at hl 0 rfl) ?_
  obtain ⟨x7, e_x7, hf⟩ := fh_b hf
  refine fh_geta S hE.1 hI e_x7 (hc := rfl) (hin := in_6) (by decide) (hts _ k_178) d_Mo_setRow_22 ?_
  refine lv_iconst (v := 3) hx hb d_Mo_setRow_25 (by decide) ?_
  refine lv_iload hx hb d_Mo_setRow_26 (lv_at hl 4 rfl) ?_
  obtain ⟨h8, e_h8, hf⟩ := fh_b hf
  refine fh_iast S hE.1 hI 0 rfl e_h8 d_Mo_setRow_28 (fun H locs hI => ?_)
  refine fh_aload_n S d_Mo_setRow_29 rfl (lv_at hl 0 rfl) ?_
  obtain ⟨x9, e_x9, hf⟩ := fh_b hf
  refine fh_geta S hE.1 hI e_x9 (hc := rfl) (hin := in_6) (by decide) (hts _ k_178) d_Mo_setRow_30 ?_
  refine lv_iconst (v := 4) hx hb d_Mo_setRow_33 (by decide) ?_
  refine lv_iload hx hb d_Mo_setRow_34 (lv_at hl 5 rfl) ?_
  obtain ⟨h10, e_h10, hf⟩ := fh_b hf
  refine fh_iast S hE.1 hI 0 rfl e_h10 d_Mo_setRow_36 (fun H locs hI => ?_)
  refine fh_aload_n S d_Mo_setRow_37 rfl (lv_at hl 0 rfl) ?_
  obtain ⟨x11, e_x11, hf⟩ := fh_b hf
  refine fh_geta S hE.1 hI e_x11 (hc := rfl) (hin := in_6) (by decide) (hts _ k_178) d_Mo_setRow_38 ?_
  refine lv_iconst (v := 5) hx hb d_Mo_setRow_41 (by decide) ?_
  refine lv_iload hx hb d_Mo_setRow_42 (lv_at hl 6 rfl) ?_
  obtain ⟨h12, e_h12, hf⟩ := fh_b hf
  refine fh_iast S hE.1 hI 0 rfl e_h12 d_Mo_setRow_44 (fun H locs hI => ?_)
  obtain rfl := Option.some.inj hf
  exact fh_vret S hr hk hAe hI d_Mo_setRow_45
theorem d_Mo_length_0 : decode c0_Mo_length 0 = .ok (.aload_n 0, 1) := by decide +kernel
theorem d_Mo_length_1 : decode c0_Mo_length 1 = .ok (.iload_n 1, 1) := by decide +kernel
theorem d_Mo_length_2 : decode c0_Mo_length 2 = .ok (.iload_n 2, 1) := by decide +kernel
theorem d_Mo_length_3 : decode c0_Mo_length 3 = .ok (.iload_n 1, 1) := by decide +kernel
theorem d_Mo_length_4 : decode c0_Mo_length 4 = .ok (.iload_n 2, 1) := by decide +kernel
theorem d_Mo_length_5 : decode c0_Mo_length 5 = .ok (.invokevirtual 81, 3) := by decide +kernel
theorem d_Mo_length_8 : decode c0_Mo_length 8 = .ok (.lreturn, 1) := by decide +kernel
def f_Mo_length (K : Nat → ClassId) (N : Nat) (o : Nat) (a1 : Int32) (a2 : Int32) (h0 : fh_H) : Option (Int64 × fh_H) :=
  (fg_o h0 (some o) 6).bind fun o1 => (f_Mo_dot K N o1 a1 a2 a1 a2 h0).bind fun r2 => some (r2.1, r2.2)
set_option maxHeartbeats 4000000 in
set_option maxRecDepth 100000 in
theorem c_Mo_length {l : Launch} {D : va_G} {K : Nat → ClassId} {t : Nat → Nat} {N : Nat} {o : Nat} {a1 : Int32} {a2 : Int32} {h0 : fh_H} {res : Int64 × fh_H} (hf : f_Mo_length K N o a1 a2 h0 = some res) : fC l D K t y_Mo_length c0_Mo_length 3 (some .long) rm_Mo_length [.ref o, .int a1, .int a2] h0 (some (.long res.1)) res.2 := by
  refine fh_body (by decide) (Nat.le_of_ble_eq_true rfl) ?_
  intro p e s m below meth c A ls S hr hk hnm hE hAe hI hl
  obtain ⟨hx, hb, hml, hown, hts⟩ := id S
  have hl : lv_has ls 3 [(0, va_rf (some o)), (1, .int a1), (2, .int a2)] := hl
  unfold f_Mo_length at hf
  refine fh_aload_n S d_Mo_length_0 rfl (lv_at hl 0 rfl) ?_
  refine lv_iload_n hx hb d_Mo_length_1 rfl (lv_at hl 1 rfl) ?_
  refine lv_iload_n hx hb d_Mo_length_2 rfl (lv_at hl 2 rfl) ?_
  refine lv_iload_n hx hb d_Mo_length_3 rfl (lv_at hl 1 rfl) ?_
  refine lv_iload_n hx hb d_Mo_length_4 rfl (lv_at hl 2 rfl) ?_
  obtain ⟨o1, e_o1, hf⟩ := fh_b hf
  obtain ⟨r2, e_r2, hf⟩ := fh_b hf
  refine fh_callV (As := [.int a1, .int a2, .int a1, .int a2]) (rest := []) S fT_good hE hI e_o1 rfl (c_Mo_dot e_r2) fy_Mo_dot fst_Mo_dot k_147 ⟨rfl, rfl⟩ ⟨Nat.le_of_ble_eq_true rfl, Nat.le_of_ble_eq_true rfl⟩ ⟨Nat.zero_le _, Nat.zero_le _⟩ rfl hl.1 rfl (Nat.le_of_ble_eq_true rfl) d_Mo_length_5 (fun H locs hI => ?_)
  obtain rfl := Option.some.inj hf
  exact fh_lret S hr hk hAe hI d_Mo_length_8
theorem d_Mo_square_0 : decode c0_Mo_square 0 = .ok (.lload_n 0, 1) := by decide +kernel
theorem d_Mo_square_1 : decode c0_Mo_square 1 = .ok (.lload_n 0, 1) := by decide +kernel
theorem d_Mo_square_2 : decode c0_Mo_square 2 = .ok (.lmul, 1) := by decide +kernel
theorem d_Mo_square_3 : decode c0_Mo_square 3 = .ok (.ldc2_w 49, 3) := by decide +kernel
theorem d_Mo_square_6 : decode c0_Mo_square 6 = .ok (.lrem, 1) := by decide +kernel
theorem d_Mo_square_7 : decode c0_Mo_square 7 = .ok (.lreturn, 1) := by decide +kernel
def f_Mo_square (K : Nat → ClassId) (N : Nat) (a0 : Int64) (h0 : fh_H) : Option (Int64 × fh_H) :=
  some (fr_l (a0 * a0) 1000003, h0)
set_option maxHeartbeats 4000000 in
set_option maxRecDepth 100000 in
theorem c_Mo_square {l : Launch} {D : va_G} {K : Nat → ClassId} {t : Nat → Nat} {N : Nat} {a0 : Int64} {h0 : fh_H} {res : Int64 × fh_H} (hf : f_Mo_square K N a0 h0 = some res) : fC l D K t y_Mo_square c0_Mo_square 2 (some .long) rm_Mo_square [.long a0] h0 (some (.long res.1)) res.2 := by
  refine fh_body (by decide) (Nat.le_of_ble_eq_true rfl) ?_
  intro p e s m below meth c A ls S hr hk hnm hE hAe hI hl
  obtain ⟨hx, hb, hml, hown, hts⟩ := id S
  have hl : lv_has ls 2 [(0, .long a0)] := hl
  unfold f_Mo_square at hf
  refine lv_lload_n hx hb d_Mo_square_0 rfl (lv_at hl 0 rfl) ?_
  refine lv_lload_n hx hb d_Mo_square_1 rfl (lv_at hl 0 rfl) ?_
  refine lv_lmul hx hb d_Mo_square_2 ?_
  refine lv_ldc2 hx hb hown (hts _ k_134) d_Mo_square_3 ?_
  refine fh_lrem S d_Mo_square_6 (by decide) ?_
  obtain rfl := Option.some.inj hf
  exact fh_lret S hr hk hAe hI d_Mo_square_7
theorem d_Mo_lift_0 : decode c0_Mo_lift 0 = .ok (.aload_n 0, 1) := by decide +kernel
theorem d_Mo_lift_1 : decode c0_Mo_lift 1 = .ok (.iload_n 1, 1) := by decide +kernel
theorem d_Mo_lift_2 : decode c0_Mo_lift 2 = .ok (.invokevirtual 68, 3) := by decide +kernel
theorem d_Mo_lift_5 : decode c0_Mo_lift 5 = .ok (.invokestatic 173, 3) := by decide +kernel
theorem d_Mo_lift_8 : decode c0_Mo_lift 8 = .ok (.aload_n 0, 1) := by decide +kernel
theorem d_Mo_lift_9 : decode c0_Mo_lift 9 = .ok (.iload_n 1, 1) := by decide +kernel
theorem d_Mo_lift_10 : decode c0_Mo_lift 10 = .ok (.invokevirtual 72, 3) := by decide +kernel
theorem d_Mo_lift_13 : decode c0_Mo_lift 13 = .ok (.invokestatic 173, 3) := by decide +kernel
theorem d_Mo_lift_16 : decode c0_Mo_lift 16 = .ok (.ladd, 1) := by decide +kernel
theorem d_Mo_lift_17 : decode c0_Mo_lift 17 = .ok (.aload_n 0, 1) := by decide +kernel
theorem d_Mo_lift_18 : decode c0_Mo_lift 18 = .ok (.iload_n 2, 1) := by decide +kernel
theorem d_Mo_lift_19 : decode c0_Mo_lift 19 = .ok (.invokevirtual 68, 3) := by decide +kernel
theorem d_Mo_lift_22 : decode c0_Mo_lift 22 = .ok (.invokestatic 173, 3) := by decide +kernel
theorem d_Mo_lift_25 : decode c0_Mo_lift 25 = .ok (.lsub, 1) := by decide +kernel
theorem d_Mo_lift_26 : decode c0_Mo_lift 26 = .ok (.aload_n 0, 1) := by decide +kernel
theorem d_Mo_lift_27 : decode c0_Mo_lift 27 = .ok (.iload_n 2, 1) := by decide +kernel
theorem d_Mo_lift_28 : decode c0_Mo_lift 28 = .ok (.invokevirtual 72, 3) := by decide +kernel
theorem d_Mo_lift_31 : decode c0_Mo_lift 31 = .ok (.invokestatic 173, 3) := by decide +kernel
theorem d_Mo_lift_34 : decode c0_Mo_lift 34 = .ok (.lsub, 1) := by decide +kernel
theorem d_Mo_lift_35 : decode c0_Mo_lift 35 = .ok (.invokestatic 51, 3) := by decide +kernel
theorem d_Mo_lift_38 : decode c0_Mo_lift 38 = .ok (.lreturn, 1) := by decide +kernel
def f_Mo_lift (K : Nat → ClassId) (N : Nat) (o : Nat) (a1 : Int32) (a2 : Int32) (h0 : fh_H) : Option (Int64 × fh_H) :=
  (fg_o h0 (some o) 6).bind fun o1 => (f_Mo_px K N o1 a1 h0).bind fun r2 => (f_Mo_square K N r2.1 r2.2).bind fun r3 => (fg_o r3.2 (some o) 6).bind fun o4 => (f_Mo_py K N o4 a1 r3.2).bind fun r5 => (f_Mo_square K N r5.1 r5.2).bind fun r6 => (fg_o r6.2 (some o) 6).bind fun o7 => (f_Mo_px K N o7 a2 r6.2).bind fun r8 => (f_Mo_square K N r8.1 r8.2).bind fun r9 => (fg_o r9.2 (some o) 6).bind fun o10 => (f_Mo_py K N o10 a2 r9.2).bind fun r11 => (f_Mo_square K N r11.1 r11.2).bind fun r12 => (f_Mo_mod K N (((r3.1 + r6.1) - r9.1) - r12.1) r12.2).bind fun r13 => some (r13.1, r13.2)
set_option maxHeartbeats 4000000 in
set_option maxRecDepth 100000 in
theorem c_Mo_lift {l : Launch} {D : va_G} {K : Nat → ClassId} {t : Nat → Nat} {N : Nat} {o : Nat} {a1 : Int32} {a2 : Int32} {h0 : fh_H} {res : Int64 × fh_H} (hf : f_Mo_lift K N o a1 a2 h0 = some res) : fC l D K t y_Mo_lift c0_Mo_lift 3 (some .long) rm_Mo_lift [.ref o, .int a1, .int a2] h0 (some (.long res.1)) res.2 := by
  refine fh_body (by decide) (Nat.le_of_ble_eq_true rfl) ?_
  intro p e s m below meth c A ls S hr hk hnm hE hAe hI hl
  obtain ⟨hx, hb, hml, hown, hts⟩ := id S
  have hl : lv_has ls 3 [(0, va_rf (some o)), (1, .int a1), (2, .int a2)] := hl
  unfold f_Mo_lift at hf
  refine fh_aload_n S d_Mo_lift_0 rfl (lv_at hl 0 rfl) ?_
  refine lv_iload_n hx hb d_Mo_lift_1 rfl (lv_at hl 1 rfl) ?_
  obtain ⟨o1, e_o1, hf⟩ := fh_b hf
  obtain ⟨r2, e_r2, hf⟩ := fh_b hf
  refine fh_callV (As := [.int a1]) (rest := []) S fT_good hE hI e_o1 rfl (c_Mo_px e_r2) fy_Mo_px fst_Mo_px k_143 ⟨rfl, rfl⟩ ⟨Nat.le_of_ble_eq_true rfl, Nat.le_of_ble_eq_true rfl⟩ ⟨Nat.zero_le _, Nat.zero_le _⟩ rfl hl.1 rfl (Nat.le_of_ble_eq_true rfl) d_Mo_lift_2 (fun H locs hI => ?_)
  obtain ⟨r3, e_r3, hf⟩ := fh_b hf
  refine fh_callS (As := [.long r2.1]) (rest := []) S fT_good hE hI (c_Mo_square e_r3) fy_Mo_square fst_Mo_square k_179 ⟨rfl, rfl⟩ ⟨Nat.le_of_ble_eq_true rfl, Nat.le_of_ble_eq_true rfl⟩ ⟨Nat.zero_le _, Nat.zero_le _⟩ rfl hl.1 rfl (Nat.le_of_ble_eq_true rfl) d_Mo_lift_5 (fun H locs hI => ?_)
  refine fh_aload_n S d_Mo_lift_8 rfl (lv_at hl 0 rfl) ?_
  refine lv_iload_n hx hb d_Mo_lift_9 rfl (lv_at hl 1 rfl) ?_
  obtain ⟨o4, e_o4, hf⟩ := fh_b hf
  obtain ⟨r5, e_r5, hf⟩ := fh_b hf
  refine fh_callV (As := [.int a1]) (rest := [.long r3.1]) S fT_good hE hI e_o4 rfl (c_Mo_py e_r5) fy_Mo_py fst_Mo_py k_144 ⟨rfl, rfl⟩ ⟨Nat.le_of_ble_eq_true rfl, Nat.le_of_ble_eq_true rfl⟩ ⟨Nat.zero_le _, Nat.zero_le _⟩ rfl hl.1 rfl (Nat.le_of_ble_eq_true rfl) d_Mo_lift_10 (fun H locs hI => ?_)
  obtain ⟨r6, e_r6, hf⟩ := fh_b hf
  refine fh_callS (As := [.long r5.1]) (rest := [.long r3.1]) S fT_good hE hI (c_Mo_square e_r6) fy_Mo_square fst_Mo_square k_179 ⟨rfl, rfl⟩ ⟨Nat.le_of_ble_eq_true rfl, Nat.le_of_ble_eq_true rfl⟩ ⟨Nat.zero_le _, Nat.zero_le _⟩ rfl hl.1 rfl (Nat.le_of_ble_eq_true rfl) d_Mo_lift_13 (fun H locs hI => ?_)
  refine lv_ladd hx hb d_Mo_lift_16 ?_
  refine fh_aload_n S d_Mo_lift_17 rfl (lv_at hl 0 rfl) ?_
  refine lv_iload_n hx hb d_Mo_lift_18 rfl (lv_at hl 2 rfl) ?_
  obtain ⟨o7, e_o7, hf⟩ := fh_b hf
  obtain ⟨r8, e_r8, hf⟩ := fh_b hf
  refine fh_callV (As := [.int a2]) (rest := [.long (r3.1 + r6.1)]) S fT_good hE hI e_o7 rfl (c_Mo_px e_r8) fy_Mo_px fst_Mo_px k_143 ⟨rfl, rfl⟩ ⟨Nat.le_of_ble_eq_true rfl, Nat.le_of_ble_eq_true rfl⟩ ⟨Nat.zero_le _, Nat.zero_le _⟩ rfl hl.1 rfl (Nat.le_of_ble_eq_true rfl) d_Mo_lift_19 (fun H locs hI => ?_)
  obtain ⟨r9, e_r9, hf⟩ := fh_b hf
  refine fh_callS (As := [.long r8.1]) (rest := [.long (r3.1 + r6.1)]) S fT_good hE hI (c_Mo_square e_r9) fy_Mo_square fst_Mo_square k_179 ⟨rfl, rfl⟩ ⟨Nat.le_of_ble_eq_true rfl, Nat.le_of_ble_eq_true rfl⟩ ⟨Nat.zero_le _, Nat.zero_le _⟩ rfl hl.1 rfl (Nat.le_of_ble_eq_true rfl) d_Mo_lift_22 (fun H locs hI => ?_)
  refine lv_lsub hx hb d_Mo_lift_25 ?_
  refine fh_aload_n S d_Mo_lift_26 rfl (lv_at hl 0 rfl) ?_
  refine lv_iload_n hx hb d_Mo_lift_27 rfl (lv_at hl 2 rfl) ?_
  obtain ⟨o10, e_o10, hf⟩ := fh_b hf
  obtain ⟨r11, e_r11, hf⟩ := fh_b hf
  refine fh_callV (As := [.int a2]) (rest := [.long ((r3.1 + r6.1) - r9.1)]) S fT_good hE hI e_o10 rfl (c_Mo_py e_r11) fy_Mo_py fst_Mo_py k_144 ⟨rfl, rfl⟩ ⟨Nat.le_of_ble_eq_true rfl, Nat.le_of_ble_eq_true rfl⟩ ⟨Nat.zero_le _, Nat.zero_le _⟩ rfl hl.1 rfl (Nat.le_of_ble_eq_true rfl) d_Mo_lift_28 (fun H locs hI => ?_)
  obtain ⟨r12, e_r12, hf⟩ := fh_b hf
  refine fh_callS (As := [.long r11.1]) (rest := [.long ((r3.1 + r6.1) - r9.1)]) S fT_good hE hI (c_Mo_square e_r12) fy_Mo_square fst_Mo_square k_179 ⟨rfl, rfl⟩ ⟨Nat.le_of_ble_eq_true rfl, Nat.le_of_ble_eq_true rfl⟩ ⟨Nat.zero_le _, Nat.zero_le _⟩ rfl hl.1 rfl (Nat.le_of_ble_eq_true rfl) d_Mo_lift_31 (fun H locs hI => ?_)
  refine lv_lsub hx hb d_Mo_lift_34 ?_
  obtain ⟨r13, e_r13, hf⟩ := fh_b hf
  refine fh_callS (As := [.long (((r3.1 + r6.1) - r9.1) - r12.1)]) (rest := []) S fT_good hE hI (c_Mo_mod e_r13) fy_Mo_mod fst_Mo_mod k_135 ⟨rfl, rfl⟩ ⟨Nat.le_of_ble_eq_true rfl, Nat.le_of_ble_eq_true rfl⟩ ⟨Nat.zero_le _, Nat.zero_le _⟩ rfl hl.1 rfl (Nat.le_of_ble_eq_true rfl) d_Mo_lift_35 (fun H locs hI => ?_)
  obtain rfl := Option.some.inj hf
  exact fh_lret S hr hk hAe hI d_Mo_lift_38
theorem d_Mo_ringOf_0 : decode c0_Mo_ringOf 0 = .ok (.aload_n 0, 1) := by decide +kernel
theorem d_Mo_ringOf_1 : decode c0_Mo_ringOf 1 = .ok (.iload_n 1, 1) := by decide +kernel
theorem d_Mo_ringOf_2 : decode c0_Mo_ringOf 2 = .ok (.iload 4, 2) := by decide +kernel
theorem d_Mo_ringOf_4 : decode c0_Mo_ringOf 4 = .ok (.invokevirtual 169, 3) := by decide +kernel
theorem d_Mo_ringOf_7 : decode c0_Mo_ringOf 7 = .ok (.lstore 5, 2) := by decide +kernel
theorem d_Mo_ringOf_9 : decode c0_Mo_ringOf 9 = .ok (.aload_n 0, 1) := by decide +kernel
theorem d_Mo_ringOf_10 : decode c0_Mo_ringOf 10 = .ok (.iload_n 2, 1) := by decide +kernel
theorem d_Mo_ringOf_11 : decode c0_Mo_ringOf 11 = .ok (.iload 4, 2) := by decide +kernel
theorem d_Mo_ringOf_13 : decode c0_Mo_ringOf 13 = .ok (.invokevirtual 169, 3) := by decide +kernel
theorem d_Mo_ringOf_16 : decode c0_Mo_ringOf 16 = .ok (.lstore 7, 2) := by decide +kernel
theorem d_Mo_ringOf_18 : decode c0_Mo_ringOf 18 = .ok (.aload_n 0, 1) := by decide +kernel
theorem d_Mo_ringOf_19 : decode c0_Mo_ringOf 19 = .ok (.iload_n 3, 1) := by decide +kernel
theorem d_Mo_ringOf_20 : decode c0_Mo_ringOf 20 = .ok (.iload 4, 2) := by decide +kernel
theorem d_Mo_ringOf_22 : decode c0_Mo_ringOf 22 = .ok (.invokevirtual 169, 3) := by decide +kernel
theorem d_Mo_ringOf_25 : decode c0_Mo_ringOf 25 = .ok (.lstore 9, 2) := by decide +kernel
theorem d_Mo_ringOf_27 : decode c0_Mo_ringOf 27 = .ok (.lload 5, 2) := by decide +kernel
theorem d_Mo_ringOf_29 : decode c0_Mo_ringOf 29 = .ok (.aload_n 0, 1) := by decide +kernel
theorem d_Mo_ringOf_30 : decode c0_Mo_ringOf 30 = .ok (.iload 4, 2) := by decide +kernel
theorem d_Mo_ringOf_32 : decode c0_Mo_ringOf 32 = .ok (.iload_n 2, 1) := by decide +kernel
theorem d_Mo_ringOf_33 : decode c0_Mo_ringOf 33 = .ok (.iload 4, 2) := by decide +kernel
theorem d_Mo_ringOf_35 : decode c0_Mo_ringOf 35 = .ok (.iload_n 3, 1) := by decide +kernel
theorem d_Mo_ringOf_36 : decode c0_Mo_ringOf 36 = .ok (.invokevirtual 98, 3) := by decide +kernel
theorem d_Mo_ringOf_39 : decode c0_Mo_ringOf 39 = .ok (.lmul, 1) := by decide +kernel
theorem d_Mo_ringOf_40 : decode c0_Mo_ringOf 40 = .ok (.lload 7, 2) := by decide +kernel
theorem d_Mo_ringOf_42 : decode c0_Mo_ringOf 42 = .ok (.aload_n 0, 1) := by decide +kernel
theorem d_Mo_ringOf_43 : decode c0_Mo_ringOf 43 = .ok (.iload 4, 2) := by decide +kernel
theorem d_Mo_ringOf_45 : decode c0_Mo_ringOf 45 = .ok (.iload_n 1, 1) := by decide +kernel
theorem d_Mo_ringOf_46 : decode c0_Mo_ringOf 46 = .ok (.iload 4, 2) := by decide +kernel
theorem d_Mo_ringOf_48 : decode c0_Mo_ringOf 48 = .ok (.iload_n 3, 1) := by decide +kernel
theorem d_Mo_ringOf_49 : decode c0_Mo_ringOf 49 = .ok (.invokevirtual 98, 3) := by decide +kernel
theorem d_Mo_ringOf_52 : decode c0_Mo_ringOf 52 = .ok (.lmul, 1) := by decide +kernel
theorem d_Mo_ringOf_53 : decode c0_Mo_ringOf 53 = .ok (.ldc2_w 49, 3) := by decide +kernel
theorem d_Mo_ringOf_56 : decode c0_Mo_ringOf 56 = .ok (.lrem, 1) := by decide +kernel
theorem d_Mo_ringOf_57 : decode c0_Mo_ringOf 57 = .ok (.lsub, 1) := by decide +kernel
theorem d_Mo_ringOf_58 : decode c0_Mo_ringOf 58 = .ok (.lload 9, 2) := by decide +kernel
theorem d_Mo_ringOf_60 : decode c0_Mo_ringOf 60 = .ok (.aload_n 0, 1) := by decide +kernel
theorem d_Mo_ringOf_61 : decode c0_Mo_ringOf 61 = .ok (.iload 4, 2) := by decide +kernel
theorem d_Mo_ringOf_63 : decode c0_Mo_ringOf 63 = .ok (.iload_n 1, 1) := by decide +kernel
theorem d_Mo_ringOf_64 : decode c0_Mo_ringOf 64 = .ok (.iload 4, 2) := by decide +kernel
theorem d_Mo_ringOf_66 : decode c0_Mo_ringOf 66 = .ok (.iload_n 2, 1) := by decide +kernel
theorem d_Mo_ringOf_67 : decode c0_Mo_ringOf 67 = .ok (.invokevirtual 98, 3) := by decide +kernel
theorem d_Mo_ringOf_70 : decode c0_Mo_ringOf 70 = .ok (.lmul, 1) := by decide +kernel
theorem d_Mo_ringOf_71 : decode c0_Mo_ringOf 71 = .ok (.ladd, 1) := by decide +kernel
theorem d_Mo_ringOf_72 : decode c0_Mo_ringOf 72 = .ok (.invokestatic 51, 3) := by decide +kernel
theorem d_Mo_ringOf_75 : decode c0_Mo_ringOf 75 = .ok (.lreturn, 1) := by decide +kernel
def f_Mo_ringOf (K : Nat → ClassId) (N : Nat) (o : Nat) (a1 : Int32) (a2 : Int32) (a3 : Int32) (a4 : Int32) (h0 : fh_H) : Option (Int64 × fh_H) :=
  (fg_o h0 (some o) 6).bind fun o1 => (f_Mo_lift K N o1 a1 a4 h0).bind fun r2 => (fg_o r2.2 (some o) 6).bind fun o3 => (f_Mo_lift K N o3 a2 a4 r2.2).bind fun r4 => (fg_o r4.2 (some o) 6).bind fun o5 => (f_Mo_lift K N o5 a3 a4 r4.2).bind fun r6 => (fg_o r6.2 (some o) 6).bind fun o7 => (f_Mo_cross K N o7 a4 a2 a4 a3 r6.2).bind fun r8 => (fg_o r8.2 (some o) 6).bind fun o9 => (f_Mo_cross K N o9 a4 a1 a4 a3 r8.2).bind fun r10 => (fg_o r10.2 (some o) 6).bind fun o11 => (f_Mo_cross K N o11 a4 a1 a4 a2 r10.2).bind fun r12 => (some (((r2.1 * r8.1) - (fr_l (r4.1 * r10.1) 1000003)) + (r6.1 * r12.1))).bind fun x13 => (f_Mo_mod K N x13 r12.2).bind fun r14 => some (r14.1, r14.2)
set_option maxHeartbeats 4000000 in
set_option maxRecDepth 100000 in
theorem c_Mo_ringOf {l : Launch} {D : va_G} {K : Nat → ClassId} {t : Nat → Nat} {N : Nat} {o : Nat} {a1 : Int32} {a2 : Int32} {a3 : Int32} {a4 : Int32} {h0 : fh_H} {res : Int64 × fh_H} (hf : f_Mo_ringOf K N o a1 a2 a3 a4 h0 = some res) : fC l D K t y_Mo_ringOf c0_Mo_ringOf 11 (some .long) rm_Mo_ringOf [.ref o, .int a1, .int a2, .int a3, .int a4] h0 (some (.long res.1)) res.2 := by
  refine fh_body (by decide) (Nat.le_of_ble_eq_true rfl) ?_
  intro p e s m below meth c A ls S hr hk hnm hE hAe hI hl
  obtain ⟨hx, hb, hml, hown, hts⟩ := id S
  have hl : lv_has ls 11 [(0, va_rf (some o)), (1, .int a1), (2, .int a2), (3, .int a3), (4, .int a4)] := hl
  unfold f_Mo_ringOf at hf
  refine fh_aload_n S d_Mo_ringOf_0 rfl (lv_at hl 0 rfl) ?_
  refine lv_iload_n hx hb d_Mo_ringOf_1 rfl (lv_at hl 1 rfl) ?_
  refine lv_iload hx hb d_Mo_ringOf_2 (lv_at hl 4 rfl) ?_
  obtain ⟨o1, e_o1, hf⟩ := fh_b hf
  obtain ⟨r2, e_r2, hf⟩ := fh_b hf
  refine fh_callV (As := [.int a1, .int a4]) (rest := []) S fT_good hE hI e_o1 rfl (c_Mo_lift e_r2) fy_Mo_lift fst_Mo_lift k_180 ⟨rfl, rfl⟩ ⟨Nat.le_of_ble_eq_true rfl, Nat.le_of_ble_eq_true rfl⟩ ⟨Nat.zero_le _, Nat.zero_le _⟩ rfl hl.1 rfl (Nat.le_of_ble_eq_true rfl) d_Mo_ringOf_4 (fun H locs hI => ?_)
  refine lv_lstore (lv' := [(5, .long r2.1), (0, va_rf (some o)), (1, .int a1), (2, .int a2), (3, .int a3), (4, .int a4)]) hx hb d_Mo_ringOf_7 hl (by decide) rfl (fun ls hl => ?_)
  refine fh_aload_n S d_Mo_ringOf_9 rfl (lv_at hl 1 rfl) ?_
  refine lv_iload_n hx hb d_Mo_ringOf_10 rfl (lv_at hl 3 rfl) ?_
  refine lv_iload hx hb d_Mo_ringOf_11 (lv_at hl 5 rfl) ?_
  obtain ⟨o3, e_o3, hf⟩ := fh_b hf
  obtain ⟨r4, e_r4, hf⟩ := fh_b hf
  refine fh_callV (As := [.int a2, .int a4]) (rest := []) S fT_good hE hI e_o3 rfl (c_Mo_lift e_r4) fy_Mo_lift fst_Mo_lift k_180 ⟨rfl, rfl⟩ ⟨Nat.le_of_ble_eq_true rfl, Nat.le_of_ble_eq_true rfl⟩ ⟨Nat.zero_le _, Nat.zero_le _⟩ rfl hl.1 rfl (Nat.le_of_ble_eq_true rfl) d_Mo_ringOf_13 (fun H locs hI => ?_)
  refine lv_lstore (lv' := [(7, .long r4.1), (5, .long r2.1), (0, va_rf (some o)), (1, .int a1), (2, .int a2), (3, .int a3), (4, .int a4)]) hx hb d_Mo_ringOf_16 hl (by decide) rfl (fun ls hl => ?_)
  refine fh_aload_n S d_Mo_ringOf_18 rfl (lv_at hl 2 rfl) ?_
  refine lv_iload_n hx hb d_Mo_ringOf_19 rfl (lv_at hl 5 rfl) ?_
  refine lv_iload hx hb d_Mo_ringOf_20 (lv_at hl 6 rfl) ?_
  obtain ⟨o5, e_o5, hf⟩ := fh_b hf
  obtain ⟨r6, e_r6, hf⟩ := fh_b hf
  refine fh_callV (As := [.int a3, .int a4]) (rest := []) S fT_good hE hI e_o5 rfl (c_Mo_lift e_r6) fy_Mo_lift fst_Mo_lift k_180 ⟨rfl, rfl⟩ ⟨Nat.le_of_ble_eq_true rfl, Nat.le_of_ble_eq_true rfl⟩ ⟨Nat.zero_le _, Nat.zero_le _⟩ rfl hl.1 rfl (Nat.le_of_ble_eq_true rfl) d_Mo_ringOf_22 (fun H locs hI => ?_)
  refine lv_lstore (lv' := [(9, .long r6.1), (7, .long r4.1), (5, .long r2.1), (0, va_rf (some o)), (1, .int a1), (2, .int a2), (3, .int a3), (4, .int a4)]) hx hb d_Mo_ringOf_25 hl (by decide) rfl (fun ls hl => ?_)
  refine lv_lload hx hb d_Mo_ringOf_27 (lv_at hl 2 rfl) ?_
  refine fh_aload_n S d_Mo_ringOf_29 rfl (lv_at hl 3 rfl) ?_
  refine lv_iload hx hb d_Mo_ringOf_30 (lv_at hl 7 rfl) ?_
  refine lv_iload_n hx hb d_Mo_ringOf_32 rfl (lv_at hl 5 rfl) ?_
  refine lv_iload hx hb d_Mo_ringOf_33 (lv_at hl 7 rfl) ?_
  refine lv_iload_n hx hb d_Mo_ringOf_35 rfl (lv_at hl 6 rfl) ?_
  obtain ⟨o7, e_o7, hf⟩ := fh_b hf
  obtain ⟨r8, e_r8, hf⟩ := fh_b hf
  refine fh_callV (As := [.int a4, .int a2, .int a4, .int a3]) (rest := [.long r2.1]) S fT_good hE hI e_o7 rfl (c_Mo_cross e_r8) fy_Mo_cross fst_Mo_cross k_151 ⟨rfl, rfl⟩ ⟨Nat.le_of_ble_eq_true rfl, Nat.le_of_ble_eq_true rfl⟩ ⟨Nat.zero_le _, Nat.zero_le _⟩ rfl hl.1 rfl (Nat.le_of_ble_eq_true rfl) d_Mo_ringOf_36 (fun H locs hI => ?_)
  refine lv_lmul hx hb d_Mo_ringOf_39 ?_
  refine lv_lload hx hb d_Mo_ringOf_40 (lv_at hl 1 rfl) ?_
  refine fh_aload_n S d_Mo_ringOf_42 rfl (lv_at hl 3 rfl) ?_
  refine lv_iload hx hb d_Mo_ringOf_43 (lv_at hl 7 rfl) ?_
  refine lv_iload_n hx hb d_Mo_ringOf_45 rfl (lv_at hl 4 rfl) ?_
  refine lv_iload hx hb d_Mo_ringOf_46 (lv_at hl 7 rfl) ?_
  refine lv_iload_n hx hb d_Mo_ringOf_48 rfl (lv_at hl 6 rfl) ?_
  obtain ⟨o9, e_o9, hf⟩ := fh_b hf
  obtain ⟨r10, e_r10, hf⟩ := fh_b hf
  refine fh_callV (As := [.int a4, .int a1, .int a4, .int a3]) (rest := [.long r4.1, .long (r2.1 * r8.1)]) S fT_good hE hI e_o9 rfl (c_Mo_cross e_r10) fy_Mo_cross fst_Mo_cross k_151 ⟨rfl, rfl⟩ ⟨Nat.le_of_ble_eq_true rfl, Nat.le_of_ble_eq_true rfl⟩ ⟨Nat.zero_le _, Nat.zero_le _⟩ rfl hl.1 rfl (Nat.le_of_ble_eq_true rfl) d_Mo_ringOf_49 (fun H locs hI => ?_)
  refine lv_lmul hx hb d_Mo_ringOf_52 ?_
  refine lv_ldc2 hx hb hown (hts _ k_134) d_Mo_ringOf_53 ?_
  refine fh_lrem S d_Mo_ringOf_56 (by decide) ?_
  refine lv_lsub hx hb d_Mo_ringOf_57 ?_
  refine lv_lload hx hb d_Mo_ringOf_58 (lv_at hl 0 rfl) ?_
  refine fh_aload_n S d_Mo_ringOf_60 rfl (lv_at hl 3 rfl) ?_
  refine lv_iload hx hb d_Mo_ringOf_61 (lv_at hl 7 rfl) ?_
  refine lv_iload_n hx hb d_Mo_ringOf_63 rfl (lv_at hl 4 rfl) ?_
  refine lv_iload hx hb d_Mo_ringOf_64 (lv_at hl 7 rfl) ?_
  refine lv_iload_n hx hb d_Mo_ringOf_66 rfl (lv_at hl 5 rfl) ?_
  obtain ⟨o11, e_o11, hf⟩ := fh_b hf
  obtain ⟨r12, e_r12, hf⟩ := fh_b hf
  refine fh_callV (As := [.int a4, .int a1, .int a4, .int a2]) (rest := [.long r6.1, .long ((r2.1 * r8.1) - (fr_l (r4.1 * r10.1) 1000003))]) S fT_good hE hI e_o11 rfl (c_Mo_cross e_r12) fy_Mo_cross fst_Mo_cross k_151 ⟨rfl, rfl⟩ ⟨Nat.le_of_ble_eq_true rfl, Nat.le_of_ble_eq_true rfl⟩ ⟨Nat.zero_le _, Nat.zero_le _⟩ rfl hl.1 rfl (Nat.le_of_ble_eq_true rfl) d_Mo_ringOf_67 (fun H locs hI => ?_)
  refine lv_lmul hx hb d_Mo_ringOf_70 ?_
  refine lv_ladd hx hb d_Mo_ringOf_71 ?_
  obtain ⟨x13, e_x13, hf⟩ := fh_b hf
  refine fh_topl e_x13 ?_
  obtain ⟨r14, e_r14, hf⟩ := fh_b hf
  refine fh_callS (As := [.long x13]) (rest := []) S fT_good hE hI (c_Mo_mod e_r14) fy_Mo_mod fst_Mo_mod k_135 ⟨rfl, rfl⟩ ⟨Nat.le_of_ble_eq_true rfl, Nat.le_of_ble_eq_true rfl⟩ ⟨Nat.zero_le _, Nat.zero_le _⟩ rfl hl.1 rfl (Nat.le_of_ble_eq_true rfl) d_Mo_ringOf_72 (fun H locs hI => ?_)
  obtain rfl := Option.some.inj hf
  exact fh_lret S hr hk hAe hI d_Mo_ringOf_75
theorem d_Mo_isSo_0 : decode c0_Mo_isSo 0 = .ok (.aload_n 0, 1) := by decide +kernel
theorem d_Mo_isSo_1 : decode c0_Mo_isSo 1 = .ok (.getfield 33, 3) := by decide +kernel
theorem d_Mo_isSo_4 : decode c0_Mo_isSo 4 = .ok (.iconst 0, 1) := by decide +kernel
theorem d_Mo_isSo_5 : decode c0_Mo_isSo 5 = .ok (.iaload, 1) := by decide +kernel
theorem d_Mo_isSo_6 : decode c0_Mo_isSo 6 = .ok (.istore 4, 2) := by decide +kernel
theorem d_Mo_isSo_8 : decode c0_Mo_isSo 8 = .ok (.aload_n 0, 1) := by decide +kernel
theorem d_Mo_isSo_9 : decode c0_Mo_isSo 9 = .ok (.getfield 33, 3) := by decide +kernel
theorem d_Mo_isSo_12 : decode c0_Mo_isSo 12 = .ok (.iconst 1, 1) := by decide +kernel
theorem d_Mo_isSo_13 : decode c0_Mo_isSo 13 = .ok (.iaload, 1) := by decide +kernel
theorem d_Mo_isSo_14 : decode c0_Mo_isSo 14 = .ok (.istore 5, 2) := by decide +kernel
theorem d_Mo_isSo_16 : decode c0_Mo_isSo 16 = .ok (.aload_n 0, 1) := by decide +kernel
theorem d_Mo_isSo_17 : decode c0_Mo_isSo 17 = .ok (.getfield 33, 3) := by decide +kernel
theorem d_Mo_isSo_20 : decode c0_Mo_isSo 20 = .ok (.iconst 2, 1) := by decide +kernel
theorem d_Mo_isSo_21 : decode c0_Mo_isSo 21 = .ok (.iaload, 1) := by decide +kernel
theorem d_Mo_isSo_22 : decode c0_Mo_isSo 22 = .ok (.istore 6, 2) := by decide +kernel
theorem d_Mo_isSo_24 : decode c0_Mo_isSo 24 = .ok (.aload_n 0, 1) := by decide +kernel
theorem d_Mo_isSo_25 : decode c0_Mo_isSo 25 = .ok (.getfield 33, 3) := by decide +kernel
theorem d_Mo_isSo_28 : decode c0_Mo_isSo 28 = .ok (.iconst 3, 1) := by decide +kernel
theorem d_Mo_isSo_29 : decode c0_Mo_isSo 29 = .ok (.iaload, 1) := by decide +kernel
theorem d_Mo_isSo_30 : decode c0_Mo_isSo 30 = .ok (.istore 7, 2) := by decide +kernel
theorem d_Mo_isSo_32 : decode c0_Mo_isSo 32 = .ok (.iload_n 1, 1) := by decide +kernel
theorem d_Mo_isSo_33 : decode c0_Mo_isSo 33 = .ok (.tableswitch 321 0 7 #[47, 85, 108, 131, 154, 180, 203, 273], 47) := by decide +kernel
theorem d_Mo_isSo_80 : decode c0_Mo_isSo 80 = .ok (.aload_n 0, 1) := by decide +kernel
theorem d_Mo_isSo_81 : decode c0_Mo_isSo 81 = .ok (.iload 4, 2) := by decide +kernel
theorem d_Mo_isSo_83 : decode c0_Mo_isSo 83 = .ok (.invokevirtual 68, 3) := by decide +kernel
theorem d_Mo_isSo_86 : decode c0_Mo_isSo 86 = .ok (.aload_n 0, 1) := by decide +kernel
theorem d_Mo_isSo_87 : decode c0_Mo_isSo 87 = .ok (.iload 5, 2) := by decide +kernel
theorem d_Mo_isSo_89 : decode c0_Mo_isSo 89 = .ok (.invokevirtual 68, 3) := by decide +kernel
theorem d_Mo_isSo_92 : decode c0_Mo_isSo 92 = .ok (.lcmp, 1) := by decide +kernel
theorem d_Mo_isSo_93 : decode c0_Mo_isSo 93 = .ok (.ifCond .ne 23, 3) := by decide +kernel
theorem d_Mo_isSo_96 : decode c0_Mo_isSo 96 = .ok (.aload_n 0, 1) := by decide +kernel
theorem d_Mo_isSo_97 : decode c0_Mo_isSo 97 = .ok (.iload 4, 2) := by decide +kernel
theorem d_Mo_isSo_99 : decode c0_Mo_isSo 99 = .ok (.invokevirtual 72, 3) := by decide +kernel
theorem d_Mo_isSo_102 : decode c0_Mo_isSo 102 = .ok (.aload_n 0, 1) := by decide +kernel
theorem d_Mo_isSo_103 : decode c0_Mo_isSo 103 = .ok (.iload 5, 2) := by decide +kernel
theorem d_Mo_isSo_105 : decode c0_Mo_isSo 105 = .ok (.invokevirtual 72, 3) := by decide +kernel
theorem d_Mo_isSo_108 : decode c0_Mo_isSo 108 = .ok (.lcmp, 1) := by decide +kernel
theorem d_Mo_isSo_109 : decode c0_Mo_isSo 109 = .ok (.ifCond .ne 7, 3) := by decide +kernel
theorem d_Mo_isSo_112 : decode c0_Mo_isSo 112 = .ok (.iconst 1, 1) := by decide +kernel
theorem d_Mo_isSo_113 : decode c0_Mo_isSo 113 = .ok (.goto 4, 3) := by decide +kernel
theorem d_Mo_isSo_116 : decode c0_Mo_isSo 116 = .ok (.iconst 0, 1) := by decide +kernel
theorem d_Mo_isSo_117 : decode c0_Mo_isSo 117 = .ok (.ireturn, 1) := by decide +kernel
theorem d_Mo_isSo_118 : decode c0_Mo_isSo 118 = .ok (.aload_n 0, 1) := by decide +kernel
theorem d_Mo_isSo_119 : decode c0_Mo_isSo 119 = .ok (.iload 4, 2) := by decide +kernel
theorem d_Mo_isSo_121 : decode c0_Mo_isSo 121 = .ok (.iload 5, 2) := by decide +kernel
theorem d_Mo_isSo_123 : decode c0_Mo_isSo 123 = .ok (.iload 4, 2) := by decide +kernel
theorem d_Mo_isSo_125 : decode c0_Mo_isSo 125 = .ok (.iload 6, 2) := by decide +kernel
theorem d_Mo_isSo_127 : decode c0_Mo_isSo 127 = .ok (.invokevirtual 98, 3) := by decide +kernel
theorem d_Mo_isSo_130 : decode c0_Mo_isSo 130 = .ok (.lconst 0, 1) := by decide +kernel
theorem d_Mo_isSo_131 : decode c0_Mo_isSo 131 = .ok (.lcmp, 1) := by decide +kernel
theorem d_Mo_isSo_132 : decode c0_Mo_isSo 132 = .ok (.ifCond .ne 7, 3) := by decide +kernel
theorem d_Mo_isSo_135 : decode c0_Mo_isSo 135 = .ok (.iconst 1, 1) := by decide +kernel
theorem d_Mo_isSo_136 : decode c0_Mo_isSo 136 = .ok (.goto 4, 3) := by decide +kernel
theorem d_Mo_isSo_139 : decode c0_Mo_isSo 139 = .ok (.iconst 0, 1) := by decide +kernel
theorem d_Mo_isSo_140 : decode c0_Mo_isSo 140 = .ok (.ireturn, 1) := by decide +kernel
theorem d_Mo_isSo_141 : decode c0_Mo_isSo 141 = .ok (.aload_n 0, 1) := by decide +kernel
theorem d_Mo_isSo_142 : decode c0_Mo_isSo 142 = .ok (.iload 4, 2) := by decide +kernel
theorem d_Mo_isSo_144 : decode c0_Mo_isSo 144 = .ok (.iload 5, 2) := by decide +kernel
theorem d_Mo_isSo_146 : decode c0_Mo_isSo 146 = .ok (.iload 6, 2) := by decide +kernel
theorem d_Mo_isSo_148 : decode c0_Mo_isSo 148 = .ok (.iload 7, 2) := by decide +kernel
theorem d_Mo_isSo_150 : decode c0_Mo_isSo 150 = .ok (.invokevirtual 98, 3) := by decide +kernel
theorem d_Mo_isSo_153 : decode c0_Mo_isSo 153 = .ok (.lconst 0, 1) := by decide +kernel
theorem d_Mo_isSo_154 : decode c0_Mo_isSo 154 = .ok (.lcmp, 1) := by decide +kernel
theorem d_Mo_isSo_155 : decode c0_Mo_isSo 155 = .ok (.ifCond .ne 7, 3) := by decide +kernel
theorem d_Mo_isSo_158 : decode c0_Mo_isSo 158 = .ok (.iconst 1, 1) := by decide +kernel
theorem d_Mo_isSo_159 : decode c0_Mo_isSo 159 = .ok (.goto 4, 3) := by decide +kernel
theorem d_Mo_isSo_162 : decode c0_Mo_isSo 162 = .ok (.iconst 0, 1) := by decide +kernel
theorem d_Mo_isSo_163 : decode c0_Mo_isSo 163 = .ok (.ireturn, 1) := by decide +kernel
theorem d_Mo_isSo_164 : decode c0_Mo_isSo 164 = .ok (.aload_n 0, 1) := by decide +kernel
theorem d_Mo_isSo_165 : decode c0_Mo_isSo 165 = .ok (.iload 4, 2) := by decide +kernel
theorem d_Mo_isSo_167 : decode c0_Mo_isSo 167 = .ok (.iload 5, 2) := by decide +kernel
theorem d_Mo_isSo_169 : decode c0_Mo_isSo 169 = .ok (.iload 6, 2) := by decide +kernel
theorem d_Mo_isSo_171 : decode c0_Mo_isSo 171 = .ok (.iload 7, 2) := by decide +kernel
theorem d_Mo_isSo_173 : decode c0_Mo_isSo 173 = .ok (.invokevirtual 81, 3) := by decide +kernel
theorem d_Mo_isSo_176 : decode c0_Mo_isSo 176 = .ok (.lconst 0, 1) := by decide +kernel
theorem d_Mo_isSo_177 : decode c0_Mo_isSo 177 = .ok (.lcmp, 1) := by decide +kernel
theorem d_Mo_isSo_178 : decode c0_Mo_isSo 178 = .ok (.ifCond .ne 7, 3) := by decide +kernel
theorem d_Mo_isSo_181 : decode c0_Mo_isSo 181 = .ok (.iconst 1, 1) := by decide +kernel
theorem d_Mo_isSo_182 : decode c0_Mo_isSo 182 = .ok (.goto 4, 3) := by decide +kernel
theorem d_Mo_isSo_185 : decode c0_Mo_isSo 185 = .ok (.iconst 0, 1) := by decide +kernel
theorem d_Mo_isSo_186 : decode c0_Mo_isSo 186 = .ok (.ireturn, 1) := by decide +kernel
theorem d_Mo_isSo_187 : decode c0_Mo_isSo 187 = .ok (.aload_n 0, 1) := by decide +kernel
theorem d_Mo_isSo_188 : decode c0_Mo_isSo 188 = .ok (.iload 4, 2) := by decide +kernel
theorem d_Mo_isSo_190 : decode c0_Mo_isSo 190 = .ok (.iload 5, 2) := by decide +kernel
theorem d_Mo_isSo_192 : decode c0_Mo_isSo 192 = .ok (.invokevirtual 176, 3) := by decide +kernel
theorem d_Mo_isSo_195 : decode c0_Mo_isSo 195 = .ok (.aload_n 0, 1) := by decide +kernel
theorem d_Mo_isSo_196 : decode c0_Mo_isSo 196 = .ok (.iload 6, 2) := by decide +kernel
theorem d_Mo_isSo_198 : decode c0_Mo_isSo 198 = .ok (.iload 7, 2) := by decide +kernel
theorem d_Mo_isSo_200 : decode c0_Mo_isSo 200 = .ok (.invokevirtual 176, 3) := by decide +kernel
theorem d_Mo_isSo_203 : decode c0_Mo_isSo 203 = .ok (.lcmp, 1) := by decide +kernel
theorem d_Mo_isSo_204 : decode c0_Mo_isSo 204 = .ok (.ifCond .ne 7, 3) := by decide +kernel
theorem d_Mo_isSo_207 : decode c0_Mo_isSo 207 = .ok (.iconst 1, 1) := by decide +kernel
theorem d_Mo_isSo_208 : decode c0_Mo_isSo 208 = .ok (.goto 4, 3) := by decide +kernel
theorem d_Mo_isSo_211 : decode c0_Mo_isSo 211 = .ok (.iconst 0, 1) := by decide +kernel
theorem d_Mo_isSo_212 : decode c0_Mo_isSo 212 = .ok (.ireturn, 1) := by decide +kernel
theorem d_Mo_isSo_213 : decode c0_Mo_isSo 213 = .ok (.aload_n 0, 1) := by decide +kernel
theorem d_Mo_isSo_214 : decode c0_Mo_isSo 214 = .ok (.iload 4, 2) := by decide +kernel
theorem d_Mo_isSo_216 : decode c0_Mo_isSo 216 = .ok (.iload 5, 2) := by decide +kernel
theorem d_Mo_isSo_218 : decode c0_Mo_isSo 218 = .ok (.iload 6, 2) := by decide +kernel
theorem d_Mo_isSo_220 : decode c0_Mo_isSo 220 = .ok (.iload 7, 2) := by decide +kernel
theorem d_Mo_isSo_222 : decode c0_Mo_isSo 222 = .ok (.invokevirtual 179, 3) := by decide +kernel
theorem d_Mo_isSo_225 : decode c0_Mo_isSo 225 = .ok (.lconst 0, 1) := by decide +kernel
theorem d_Mo_isSo_226 : decode c0_Mo_isSo 226 = .ok (.lcmp, 1) := by decide +kernel
theorem d_Mo_isSo_227 : decode c0_Mo_isSo 227 = .ok (.ifCond .ne 7, 3) := by decide +kernel
theorem d_Mo_isSo_230 : decode c0_Mo_isSo 230 = .ok (.iconst 1, 1) := by decide +kernel
theorem d_Mo_isSo_231 : decode c0_Mo_isSo 231 = .ok (.goto 4, 3) := by decide +kernel
theorem d_Mo_isSo_234 : decode c0_Mo_isSo 234 = .ok (.iconst 0, 1) := by decide +kernel
theorem d_Mo_isSo_235 : decode c0_Mo_isSo 235 = .ok (.ireturn, 1) := by decide +kernel
theorem d_Mo_isSo_236 : decode c0_Mo_isSo 236 = .ok (.ldc2_w 96, 3) := by decide +kernel
theorem d_Mo_isSo_239 : decode c0_Mo_isSo 239 = .ok (.aload_n 0, 1) := by decide +kernel
theorem d_Mo_isSo_240 : decode c0_Mo_isSo 240 = .ok (.iload 4, 2) := by decide +kernel
theorem d_Mo_isSo_242 : decode c0_Mo_isSo 242 = .ok (.invokevirtual 68, 3) := by decide +kernel
theorem d_Mo_isSo_245 : decode c0_Mo_isSo 245 = .ok (.lmul, 1) := by decide +kernel
theorem d_Mo_isSo_246 : decode c0_Mo_isSo 246 = .ok (.aload_n 0, 1) := by decide +kernel
theorem d_Mo_isSo_247 : decode c0_Mo_isSo 247 = .ok (.iload 5, 2) := by decide +kernel
theorem d_Mo_isSo_249 : decode c0_Mo_isSo 249 = .ok (.invokevirtual 68, 3) := by decide +kernel
theorem d_Mo_isSo_252 : decode c0_Mo_isSo 252 = .ok (.lsub, 1) := by decide +kernel
theorem d_Mo_isSo_253 : decode c0_Mo_isSo 253 = .ok (.aload_n 0, 1) := by decide +kernel
theorem d_Mo_isSo_254 : decode c0_Mo_isSo 254 = .ok (.iload 6, 2) := by decide +kernel
theorem d_Mo_isSo_256 : decode c0_Mo_isSo 256 = .ok (.invokevirtual 68, 3) := by decide +kernel
theorem d_Mo_isSo_259 : decode c0_Mo_isSo 259 = .ok (.lsub, 1) := by decide +kernel
theorem d_Mo_isSo_260 : decode c0_Mo_isSo 260 = .ok (.invokestatic 51, 3) := by decide +kernel
theorem d_Mo_isSo_263 : decode c0_Mo_isSo 263 = .ok (.lconst 0, 1) := by decide +kernel
theorem d_Mo_isSo_264 : decode c0_Mo_isSo 264 = .ok (.lcmp, 1) := by decide +kernel
theorem d_Mo_isSo_265 : decode c0_Mo_isSo 265 = .ok (.ifCond .ne 39, 3) := by decide +kernel
theorem d_Mo_isSo_268 : decode c0_Mo_isSo 268 = .ok (.ldc2_w 96, 3) := by decide +kernel
theorem d_Mo_isSo_271 : decode c0_Mo_isSo 271 = .ok (.aload_n 0, 1) := by decide +kernel
theorem d_Mo_isSo_272 : decode c0_Mo_isSo 272 = .ok (.iload 4, 2) := by decide +kernel
theorem d_Mo_isSo_274 : decode c0_Mo_isSo 274 = .ok (.invokevirtual 72, 3) := by decide +kernel
theorem d_Mo_isSo_277 : decode c0_Mo_isSo 277 = .ok (.lmul, 1) := by decide +kernel
theorem d_Mo_isSo_278 : decode c0_Mo_isSo 278 = .ok (.aload_n 0, 1) := by decide +kernel
theorem d_Mo_isSo_279 : decode c0_Mo_isSo 279 = .ok (.iload 5, 2) := by decide +kernel
theorem d_Mo_isSo_281 : decode c0_Mo_isSo 281 = .ok (.invokevirtual 72, 3) := by decide +kernel
theorem d_Mo_isSo_284 : decode c0_Mo_isSo 284 = .ok (.lsub, 1) := by decide +kernel
theorem d_Mo_isSo_285 : decode c0_Mo_isSo 285 = .ok (.aload_n 0, 1) := by decide +kernel
theorem d_Mo_isSo_286 : decode c0_Mo_isSo 286 = .ok (.iload 6, 2) := by decide +kernel
theorem d_Mo_isSo_288 : decode c0_Mo_isSo 288 = .ok (.invokevirtual 72, 3) := by decide +kernel
theorem d_Mo_isSo_291 : decode c0_Mo_isSo 291 = .ok (.lsub, 1) := by decide +kernel
theorem d_Mo_isSo_292 : decode c0_Mo_isSo 292 = .ok (.invokestatic 51, 3) := by decide +kernel
theorem d_Mo_isSo_295 : decode c0_Mo_isSo 295 = .ok (.lconst 0, 1) := by decide +kernel
theorem d_Mo_isSo_296 : decode c0_Mo_isSo 296 = .ok (.lcmp, 1) := by decide +kernel
theorem d_Mo_isSo_297 : decode c0_Mo_isSo 297 = .ok (.ifCond .ne 7, 3) := by decide +kernel
theorem d_Mo_isSo_300 : decode c0_Mo_isSo 300 = .ok (.iconst 1, 1) := by decide +kernel
theorem d_Mo_isSo_301 : decode c0_Mo_isSo 301 = .ok (.goto 4, 3) := by decide +kernel
theorem d_Mo_isSo_304 : decode c0_Mo_isSo 304 = .ok (.iconst 0, 1) := by decide +kernel
theorem d_Mo_isSo_305 : decode c0_Mo_isSo 305 = .ok (.ireturn, 1) := by decide +kernel
theorem d_Mo_isSo_306 : decode c0_Mo_isSo 306 = .ok (.aload_n 0, 1) := by decide +kernel
theorem d_Mo_isSo_307 : decode c0_Mo_isSo 307 = .ok (.iload 4, 2) := by decide +kernel
theorem d_Mo_isSo_309 : decode c0_Mo_isSo 309 = .ok (.iload 5, 2) := by decide +kernel
theorem d_Mo_isSo_311 : decode c0_Mo_isSo 311 = .ok (.iload 4, 2) := by decide +kernel
theorem d_Mo_isSo_313 : decode c0_Mo_isSo 313 = .ok (.iload 6, 2) := by decide +kernel
theorem d_Mo_isSo_315 : decode c0_Mo_isSo 315 = .ok (.invokevirtual 98, 3) := by decide +kernel
theorem d_Mo_isSo_318 : decode c0_Mo_isSo 318 = .ok (.invokestatic 173, 3) := by decide +kernel
theorem d_Mo_isSo_321 : decode c0_Mo_isSo 321 = .ok (.aload_n 0, 1) := by decide +kernel
theorem d_Mo_isSo_322 : decode c0_Mo_isSo 322 = .ok (.iload 7, 2) := by decide +kernel
theorem d_Mo_isSo_324 : decode c0_Mo_isSo 324 = .ok (.aload_n 0, 1) := by decide +kernel
theorem d_Mo_isSo_325 : decode c0_Mo_isSo 325 = .ok (.getfield 33, 3) := by decide +kernel
theorem d_Mo_isSo_328 : decode c0_Mo_isSo 328 = .ok (.iconst 4, 1) := by decide +kernel
theorem d_Mo_isSo_329 : decode c0_Mo_isSo 329 = .ok (.iaload, 1) := by decide +kernel
theorem d_Mo_isSo_330 : decode c0_Mo_isSo 330 = .ok (.iload 7, 2) := by decide +kernel
theorem d_Mo_isSo_332 : decode c0_Mo_isSo 332 = .ok (.aload_n 0, 1) := by decide +kernel
theorem d_Mo_isSo_333 : decode c0_Mo_isSo 333 = .ok (.getfield 33, 3) := by decide +kernel
theorem d_Mo_isSo_336 : decode c0_Mo_isSo 336 = .ok (.iconst 5, 1) := by decide +kernel
theorem d_Mo_isSo_337 : decode c0_Mo_isSo 337 = .ok (.iaload, 1) := by decide +kernel
theorem d_Mo_isSo_338 : decode c0_Mo_isSo 338 = .ok (.invokevirtual 98, 3) := by decide +kernel
theorem d_Mo_isSo_341 : decode c0_Mo_isSo 341 = .ok (.invokestatic 173, 3) := by decide +kernel
theorem d_Mo_isSo_344 : decode c0_Mo_isSo 344 = .ok (.lcmp, 1) := by decide +kernel
theorem d_Mo_isSo_345 : decode c0_Mo_isSo 345 = .ok (.ifCond .ne 7, 3) := by decide +kernel
theorem d_Mo_isSo_348 : decode c0_Mo_isSo 348 = .ok (.iconst 1, 1) := by decide +kernel
theorem d_Mo_isSo_349 : decode c0_Mo_isSo 349 = .ok (.goto 4, 3) := by decide +kernel
theorem d_Mo_isSo_352 : decode c0_Mo_isSo 352 = .ok (.iconst 0, 1) := by decide +kernel
theorem d_Mo_isSo_353 : decode c0_Mo_isSo 353 = .ok (.ireturn, 1) := by decide +kernel
theorem d_Mo_isSo_354 : decode c0_Mo_isSo 354 = .ok (.iload_n 2, 1) := by decide +kernel
theorem d_Mo_isSo_355 : decode c0_Mo_isSo 355 = .ok (.i2l, 1) := by decide +kernel
theorem d_Mo_isSo_356 : decode c0_Mo_isSo 356 = .ok (.aload_n 0, 1) := by decide +kernel
theorem d_Mo_isSo_357 : decode c0_Mo_isSo 357 = .ok (.iload 4, 2) := by decide +kernel
theorem d_Mo_isSo_359 : decode c0_Mo_isSo 359 = .ok (.iload 5, 2) := by decide +kernel
theorem d_Mo_isSo_361 : decode c0_Mo_isSo 361 = .ok (.invokevirtual 176, 3) := by decide +kernel
theorem d_Mo_isSo_364 : decode c0_Mo_isSo 364 = .ok (.lmul, 1) := by decide +kernel
theorem d_Mo_isSo_365 : decode c0_Mo_isSo 365 = .ok (.iload_n 3, 1) := by decide +kernel
theorem d_Mo_isSo_366 : decode c0_Mo_isSo 366 = .ok (.i2l, 1) := by decide +kernel
theorem d_Mo_isSo_367 : decode c0_Mo_isSo 367 = .ok (.aload_n 0, 1) := by decide +kernel
theorem d_Mo_isSo_368 : decode c0_Mo_isSo 368 = .ok (.iload 6, 2) := by decide +kernel
theorem d_Mo_isSo_370 : decode c0_Mo_isSo 370 = .ok (.iload 7, 2) := by decide +kernel
theorem d_Mo_isSo_372 : decode c0_Mo_isSo 372 = .ok (.invokevirtual 176, 3) := by decide +kernel
theorem d_Mo_isSo_375 : decode c0_Mo_isSo 375 = .ok (.lmul, 1) := by decide +kernel
theorem d_Mo_isSo_376 : decode c0_Mo_isSo 376 = .ok (.lsub, 1) := by decide +kernel
theorem d_Mo_isSo_377 : decode c0_Mo_isSo 377 = .ok (.invokestatic 51, 3) := by decide +kernel
theorem d_Mo_isSo_380 : decode c0_Mo_isSo 380 = .ok (.lconst 0, 1) := by decide +kernel
theorem d_Mo_isSo_381 : decode c0_Mo_isSo 381 = .ok (.lcmp, 1) := by decide +kernel
theorem d_Mo_isSo_382 : decode c0_Mo_isSo 382 = .ok (.ifCond .ne 7, 3) := by decide +kernel
theorem d_Mo_isSo_385 : decode c0_Mo_isSo 385 = .ok (.iconst 1, 1) := by decide +kernel
theorem d_Mo_isSo_386 : decode c0_Mo_isSo 386 = .ok (.goto 4, 3) := by decide +kernel
theorem d_Mo_isSo_389 : decode c0_Mo_isSo 389 = .ok (.iconst 0, 1) := by decide +kernel
theorem d_Mo_isSo_390 : decode c0_Mo_isSo 390 = .ok (.ireturn, 1) := by decide +kernel
def f_Mo_isSo (K : Nat → ClassId) (N : Nat) (o : Nat) (a1 : Int32) (a2 : Int32) (a3 : Int32) (h0 : fh_H) : Option (Int32 × fh_H) :=
  (fg_a h0 (some o) 6 13).bind fun x1 => (fa_i (K 0) h0 x1 0).bind fun x2 => (fg_a h0 (some o) 6 13).bind fun x3 => (fa_i (K 0) h0 x3 1).bind fun x4 => (fg_a h0 (some o) 6 13).bind fun x5 => (fa_i (K 0) h0 x5 2).bind fun x6 => (fg_a h0 (some o) 6 13).bind fun x7 => (fa_i (K 0) h0 x7 3).bind fun x8 => if a1 = 0 then ((fg_o h0 (some o) 6).bind fun o14 => (f_Mo_px K N o14 x2 h0).bind fun r15 => (fg_o r15.2 (some o) 6).bind fun o16 => (f_Mo_px K N o16 x4 r15.2).bind fun r17 => if (lg_cmp r15.1 r17.1) = 0 then ((fg_o r17.2 (some o) 6).bind fun o18 => (f_Mo_py K N o18 x2 r17.2).bind fun r19 => (fg_o r19.2 (some o) 6).bind fun o20 => (f_Mo_py K N o20 x4 r19.2).bind fun r21 => if (lg_cmp r19.1 r21.1) = 0 then (some (1, r21.2)) else (some (0, r21.2))) else (some (0, r17.2))) else (if a1 = 1 then ((fg_o h0 (some o) 6).bind fun o22 => (f_Mo_cross K N o22 x2 x4 x2 x6 h0).bind fun r23 => if (lg_cmp r23.1 0) = 0 then (some (1, r23.2)) else (some (0, r23.2))) else (if a1 = 2 then ((fg_o h0 (some o) 6).bind fun o24 => (f_Mo_cross K N o24 x2 x4 x6 x8 h0).bind fun r25 => if (lg_cmp r25.1 0) = 0 then (some (1, r25.2)) else (some (0, r25.2))) else (if a1 = 3 then ((fg_o h0 (some o) 6).bind fun o26 => (f_Mo_dot K N o26 x2 x4 x6 x8 h0).bind fun r27 => if (lg_cmp r27.1 0) = 0 then (some (1, r27.2)) else (some (0, r27.2))) else (if a1 = 4 then ((fg_o h0 (some o) 6).bind fun o28 => (f_Mo_length K N o28 x2 x4 h0).bind fun r29 => (fg_o r29.2 (some o) 6).bind fun o30 => (f_Mo_length K N o30 x6 x8 r29.2).bind fun r31 => if (lg_cmp r29.1 r31.1) = 0 then (some (1, r31.2)) else (some (0, r31.2))) else (if a1 = 5 then ((fg_o h0 (some o) 6).bind fun o32 => (f_Mo_ringOf K N o32 x2 x4 x6 x8 h0).bind fun r33 => if (lg_cmp r33.1 0) = 0 then (some (1, r33.2)) else (some (0, r33.2))) else (if a1 = 6 then ((fg_o h0 (some o) 6).bind fun o34 => (f_Mo_px K N o34 x2 h0).bind fun r35 => (fg_o r35.2 (some o) 6).bind fun o36 => (f_Mo_px K N o36 x4 r35.2).bind fun r37 => (fg_o r37.2 (some o) 6).bind fun o38 => (f_Mo_px K N o38 x6 r37.2).bind fun r39 => (f_Mo_mod K N (((2 * r35.1) - r37.1) - r39.1) r39.2).bind fun r40 => if (lg_cmp r40.1 0) = 0 then ((fg_o r40.2 (some o) 6).bind fun o41 => (f_Mo_py K N o41 x2 r40.2).bind fun r42 => (fg_o r42.2 (some o) 6).bind fun o43 => (f_Mo_py K N o43 x4 r42.2).bind fun r44 => (fg_o r44.2 (some o) 6).bind fun o45 => (f_Mo_py K N o45 x6 r44.2).bind fun r46 => (f_Mo_mod K N (((2 * r42.1) - r44.1) - r46.1) r46.2).bind fun r47 => if (lg_cmp r47.1 0) = 0 then (some (1, r47.2)) else (some (0, r47.2))) else (some (0, r40.2))) else (if a1 = 7 then ((fg_o h0 (some o) 6).bind fun o48 => (f_Mo_cross K N o48 x2 x4 x2 x6 h0).bind fun r49 => (f_Mo_square K N r49.1 r49.2).bind fun r50 => (fg_a r50.2 (some o) 6 13).bind fun x51 => (fa_i (K 0) r50.2 x51 4).bind fun x52 => (fg_a r50.2 (some o) 6 13).bind fun x53 => (fa_i (K 0) r50.2 x53 5).bind fun x54 => (fg_o r50.2 (some o) 6).bind fun o55 => (f_Mo_cross K N o55 x8 x52 x8 x54 r50.2).bind fun r56 => (f_Mo_square K N r56.1 r56.2).bind fun r57 => if (lg_cmp r50.1 r57.1) = 0 then (some (1, r57.2)) else (some (0, r57.2))) else ((fg_o h0 (some o) 6).bind fun o9 => (f_Mo_length K N o9 x2 x4 h0).bind fun r10 => (fg_o r10.2 (some o) 6).bind fun o11 => (f_Mo_length K N o11 x6 x8 r10.2).bind fun r12 => (f_Mo_mod K N ((a2.toInt64 * r10.1) - (a3.toInt64 * r12.1)) r12.2).bind fun r13 => if (lg_cmp r13.1 0) = 0 then (some (1, r13.2)) else (some (0, r13.2))))))))))
set_option maxHeartbeats 4000000 in
set_option maxRecDepth 100000 in
theorem c_Mo_isSo {l : Launch} {D : va_G} {K : Nat → ClassId} {t : Nat → Nat} {N : Nat} {o : Nat} {a1 : Int32} {a2 : Int32} {a3 : Int32} {h0 : fh_H} {res : Int32 × fh_H} (hf : f_Mo_isSo K N o a1 a2 a3 h0 = some res) : fC l D K t y_Mo_isSo c0_Mo_isSo 8 (some .boolean) rm_Mo_isSo [.ref o, .int a1, .int a2, .int a3] h0 (some (.int res.1)) res.2 := by
  refine fh_body (by decide) (Nat.le_of_ble_eq_true rfl) ?_
  intro p e s m below meth c A ls S hr hk hnm hE hAe hI hl
  obtain ⟨hx, hb, hml, hown, hts⟩ := id S
  have hl : lv_has ls 8 [(0, va_rf (some o)), (1, .int a1), (2, .int a2), (3, .int a3)] := hl
  unfold f_Mo_isSo at hf
  refine fh_aload_n S d_Mo_isSo_0 rfl (lv_at hl 0 rfl) ?_
  obtain ⟨x1, e_x1, hf⟩ := fh_b hf
  refine fh_geta S hE.1 hI e_x1 (hc := rfl) (hin := in_6) (by decide) (hts _ k_178) d_Mo_isSo_1 ?_
  refine lv_iconst (v := 0) hx hb d_Mo_isSo_4 (by decide) ?_
  obtain ⟨x2, e_x2, hf⟩ := fh_b hf
  refine fh_iald S hE.1 hI 0 rfl e_x2 d_Mo_isSo_5 ?_
  refine lv_istore (lv' := [(4, .int x2), (0, va_rf (some o)), (1, .int a1), (2, .int a2), (3, .int a3)]) hx hb d_Mo_isSo_6 hl (by decide) rfl (fun ls hl => ?_)
  refine fh_aload_n S d_Mo_isSo_8 rfl (lv_at hl 1 rfl) ?_
  obtain ⟨x3, e_x3, hf⟩ := fh_b hf
  refine fh_geta S hE.1 hI e_x3 (hc := rfl) (hin := in_6) (by decide) (hts _ k_178) d_Mo_isSo_9 ?_
  refine lv_iconst (v := 1) hx hb d_Mo_isSo_12 (by decide) ?_
  obtain ⟨x4, e_x4, hf⟩ := fh_b hf
  refine fh_iald S hE.1 hI 0 rfl e_x4 d_Mo_isSo_13 ?_
  refine lv_istore (lv' := [(5, .int x4), (4, .int x2), (0, va_rf (some o)), (1, .int a1), (2, .int a2), (3, .int a3)]) hx hb d_Mo_isSo_14 hl (by decide) rfl (fun ls hl => ?_)
  refine fh_aload_n S d_Mo_isSo_16 rfl (lv_at hl 2 rfl) ?_
  obtain ⟨x5, e_x5, hf⟩ := fh_b hf
  refine fh_geta S hE.1 hI e_x5 (hc := rfl) (hin := in_6) (by decide) (hts _ k_178) d_Mo_isSo_17 ?_
  refine lv_iconst (v := 2) hx hb d_Mo_isSo_20 (by decide) ?_
  obtain ⟨x6, e_x6, hf⟩ := fh_b hf
  refine fh_iald S hE.1 hI 0 rfl e_x6 d_Mo_isSo_21 ?_
  refine lv_istore (lv' := [(6, .int x6), (5, .int x4), (4, .int x2), (0, va_rf (some o)), (1, .int a1), (2, .int a2), (3, .int a3)]) hx hb d_Mo_isSo_22 hl (by decide) rfl (fun ls hl => ?_)
  refine fh_aload_n S d_Mo_isSo_24 rfl (lv_at hl 3 rfl) ?_
  obtain ⟨x7, e_x7, hf⟩ := fh_b hf
  refine fh_geta S hE.1 hI e_x7 (hc := rfl) (hin := in_6) (by decide) (hts _ k_178) d_Mo_isSo_25 ?_
  refine lv_iconst (v := 3) hx hb d_Mo_isSo_28 (by decide) ?_
  obtain ⟨x8, e_x8, hf⟩ := fh_b hf
  refine fh_iald S hE.1 hI 0 rfl e_x8 d_Mo_isSo_29 ?_
  refine lv_istore (lv' := [(7, .int x8), (6, .int x6), (5, .int x4), (4, .int x2), (0, va_rf (some o)), (1, .int a1), (2, .int a2), (3, .int a3)]) hx hb d_Mo_isSo_30 hl (by decide) rfl (fun ls hl => ?_)
  refine lv_iload_n hx hb d_Mo_isSo_32 rfl (lv_at hl 5 rfl) ?_
  by_cases c_33_0 : a1 = 0
  · replace hf := fh_t c_33_0 hf
    refine lv_tableIn (tgt := 80) hx hb d_Mo_isSo_33 (by rw [c_33_0]; decide) (by rw [c_33_0]; decide) (off := 47) (by rw [c_33_0]; decide) (by decide) ?_
    refine fh_aload_n S d_Mo_isSo_80 rfl (lv_at hl 4 rfl) ?_
    refine lv_iload hx hb d_Mo_isSo_81 (lv_at hl 3 rfl) ?_
    obtain ⟨o14, e_o14, hf⟩ := fh_b hf
    obtain ⟨r15, e_r15, hf⟩ := fh_b hf
    refine fh_callV (As := [.int x2]) (rest := []) S fT_good hE hI e_o14 rfl (c_Mo_px e_r15) fy_Mo_px fst_Mo_px k_143 ⟨rfl, rfl⟩ ⟨Nat.le_of_ble_eq_true rfl, Nat.le_of_ble_eq_true rfl⟩ ⟨Nat.zero_le _, Nat.zero_le _⟩ rfl hl.1 rfl (Nat.le_of_ble_eq_true rfl) d_Mo_isSo_83 (fun H locs hI => ?_)
    refine fh_aload_n S d_Mo_isSo_86 rfl (lv_at hl 4 rfl) ?_
    refine lv_iload hx hb d_Mo_isSo_87 (lv_at hl 2 rfl) ?_
    obtain ⟨o16, e_o16, hf⟩ := fh_b hf
    obtain ⟨r17, e_r17, hf⟩ := fh_b hf
    refine fh_callV (As := [.int x4]) (rest := [.long r15.1]) S fT_good hE hI e_o16 rfl (c_Mo_px e_r17) fy_Mo_px fst_Mo_px k_143 ⟨rfl, rfl⟩ ⟨Nat.le_of_ble_eq_true rfl, Nat.le_of_ble_eq_true rfl⟩ ⟨Nat.zero_le _, Nat.zero_le _⟩ rfl hl.1 rfl (Nat.le_of_ble_eq_true rfl) d_Mo_isSo_89 (fun H locs hI => ?_)
    refine W.lcmp hx hb d_Mo_isSo_92 ?_
    refine lv_if_ne (tgt := 116) hx hb d_Mo_isSo_93 (by decide) (fun c_93 => ?_) (fun c_93 => ?_)
    · replace hf := fh_f c_93 hf
      refine lv_iconst (v := 0) hx hb d_Mo_isSo_116 (by decide) ?_
      obtain rfl := Option.some.inj hf
      exact fh_iret S hr hk (fh_nb (Or.inl rfl)) hAe hI d_Mo_isSo_117
    · replace hf := fh_t c_93 hf
      refine fh_aload_n S d_Mo_isSo_96 rfl (lv_at hl 4 rfl) ?_
      refine lv_iload hx hb d_Mo_isSo_97 (lv_at hl 3 rfl) ?_
      obtain ⟨o18, e_o18, hf⟩ := fh_b hf
      obtain ⟨r19, e_r19, hf⟩ := fh_b hf
      refine fh_callV (As := [.int x2]) (rest := []) S fT_good hE hI e_o18 rfl (c_Mo_py e_r19) fy_Mo_py fst_Mo_py k_144 ⟨rfl, rfl⟩ ⟨Nat.le_of_ble_eq_true rfl, Nat.le_of_ble_eq_true rfl⟩ ⟨Nat.zero_le _, Nat.zero_le _⟩ rfl hl.1 rfl (Nat.le_of_ble_eq_true rfl) d_Mo_isSo_99 (fun H locs hI => ?_)
      refine fh_aload_n S d_Mo_isSo_102 rfl (lv_at hl 4 rfl) ?_
      refine lv_iload hx hb d_Mo_isSo_103 (lv_at hl 2 rfl) ?_
      obtain ⟨o20, e_o20, hf⟩ := fh_b hf
      obtain ⟨r21, e_r21, hf⟩ := fh_b hf
      refine fh_callV (As := [.int x4]) (rest := [.long r19.1]) S fT_good hE hI e_o20 rfl (c_Mo_py e_r21) fy_Mo_py fst_Mo_py k_144 ⟨rfl, rfl⟩ ⟨Nat.le_of_ble_eq_true rfl, Nat.le_of_ble_eq_true rfl⟩ ⟨Nat.zero_le _, Nat.zero_le _⟩ rfl hl.1 rfl (Nat.le_of_ble_eq_true rfl) d_Mo_isSo_105 (fun H locs hI => ?_)
      refine W.lcmp hx hb d_Mo_isSo_108 ?_
      refine lv_if_ne (tgt := 116) hx hb d_Mo_isSo_109 (by decide) (fun c_109 => ?_) (fun c_109 => ?_)
      · replace hf := fh_f c_109 hf
        refine lv_iconst (v := 0) hx hb d_Mo_isSo_116 (by decide) ?_
        obtain rfl := Option.some.inj hf
        exact fh_iret S hr hk (fh_nb (Or.inl rfl)) hAe hI d_Mo_isSo_117
      · replace hf := fh_t c_109 hf
        refine lv_iconst (v := 1) hx hb d_Mo_isSo_112 (by decide) ?_
        refine lv_goto (tgt := 117) hx hb d_Mo_isSo_113 (by decide) ?_
        obtain rfl := Option.some.inj hf
        exact fh_iret S hr hk (fh_nb (Or.inr rfl)) hAe hI d_Mo_isSo_117
  replace hf := fh_f c_33_0 hf
  by_cases c_33_1 : a1 = 1
  · replace hf := fh_t c_33_1 hf
    refine lv_tableIn (tgt := 118) hx hb d_Mo_isSo_33 (by rw [c_33_1]; decide) (by rw [c_33_1]; decide) (off := 85) (by rw [c_33_1]; decide) (by decide) ?_
    refine fh_aload_n S d_Mo_isSo_118 rfl (lv_at hl 4 rfl) ?_
    refine lv_iload hx hb d_Mo_isSo_119 (lv_at hl 3 rfl) ?_
    refine lv_iload hx hb d_Mo_isSo_121 (lv_at hl 2 rfl) ?_
    refine lv_iload hx hb d_Mo_isSo_123 (lv_at hl 3 rfl) ?_
    refine lv_iload hx hb d_Mo_isSo_125 (lv_at hl 1 rfl) ?_
    obtain ⟨o22, e_o22, hf⟩ := fh_b hf
    obtain ⟨r23, e_r23, hf⟩ := fh_b hf
    refine fh_callV (As := [.int x2, .int x4, .int x2, .int x6]) (rest := []) S fT_good hE hI e_o22 rfl (c_Mo_cross e_r23) fy_Mo_cross fst_Mo_cross k_151 ⟨rfl, rfl⟩ ⟨Nat.le_of_ble_eq_true rfl, Nat.le_of_ble_eq_true rfl⟩ ⟨Nat.zero_le _, Nat.zero_le _⟩ rfl hl.1 rfl (Nat.le_of_ble_eq_true rfl) d_Mo_isSo_127 (fun H locs hI => ?_)
    refine lv_lconst (v := 0) hx hb d_Mo_isSo_130 (by decide) ?_
    refine W.lcmp hx hb d_Mo_isSo_131 ?_
    refine lv_if_ne (tgt := 139) hx hb d_Mo_isSo_132 (by decide) (fun c_132 => ?_) (fun c_132 => ?_)
    · replace hf := fh_f c_132 hf
      refine lv_iconst (v := 0) hx hb d_Mo_isSo_139 (by decide) ?_
      obtain rfl := Option.some.inj hf
      exact fh_iret S hr hk (fh_nb (Or.inl rfl)) hAe hI d_Mo_isSo_140
    · replace hf := fh_t c_132 hf
      refine lv_iconst (v := 1) hx hb d_Mo_isSo_135 (by decide) ?_
      refine lv_goto (tgt := 140) hx hb d_Mo_isSo_136 (by decide) ?_
      obtain rfl := Option.some.inj hf
      exact fh_iret S hr hk (fh_nb (Or.inr rfl)) hAe hI d_Mo_isSo_140
  replace hf := fh_f c_33_1 hf
  by_cases c_33_2 : a1 = 2
  · replace hf := fh_t c_33_2 hf
    refine lv_tableIn (tgt := 141) hx hb d_Mo_isSo_33 (by rw [c_33_2]; decide) (by rw [c_33_2]; decide) (off := 108) (by rw [c_33_2]; decide) (by decide) ?_
    refine fh_aload_n S d_Mo_isSo_141 rfl (lv_at hl 4 rfl) ?_
    refine lv_iload hx hb d_Mo_isSo_142 (lv_at hl 3 rfl) ?_
    refine lv_iload hx hb d_Mo_isSo_144 (lv_at hl 2 rfl) ?_
    refine lv_iload hx hb d_Mo_isSo_146 (lv_at hl 1 rfl) ?_
    refine lv_iload hx hb d_Mo_isSo_148 (lv_at hl 0 rfl) ?_
    obtain ⟨o24, e_o24, hf⟩ := fh_b hf
    obtain ⟨r25, e_r25, hf⟩ := fh_b hf
    refine fh_callV (As := [.int x2, .int x4, .int x6, .int x8]) (rest := []) S fT_good hE hI e_o24 rfl (c_Mo_cross e_r25) fy_Mo_cross fst_Mo_cross k_151 ⟨rfl, rfl⟩ ⟨Nat.le_of_ble_eq_true rfl, Nat.le_of_ble_eq_true rfl⟩ ⟨Nat.zero_le _, Nat.zero_le _⟩ rfl hl.1 rfl (Nat.le_of_ble_eq_true rfl) d_Mo_isSo_150 (fun H locs hI => ?_)
    refine lv_lconst (v := 0) hx hb d_Mo_isSo_153 (by decide) ?_
    refine W.lcmp hx hb d_Mo_isSo_154 ?_
    refine lv_if_ne (tgt := 162) hx hb d_Mo_isSo_155 (by decide) (fun c_155 => ?_) (fun c_155 => ?_)
    · replace hf := fh_f c_155 hf
      refine lv_iconst (v := 0) hx hb d_Mo_isSo_162 (by decide) ?_
      obtain rfl := Option.some.inj hf
      exact fh_iret S hr hk (fh_nb (Or.inl rfl)) hAe hI d_Mo_isSo_163
    · replace hf := fh_t c_155 hf
      refine lv_iconst (v := 1) hx hb d_Mo_isSo_158 (by decide) ?_
      refine lv_goto (tgt := 163) hx hb d_Mo_isSo_159 (by decide) ?_
      obtain rfl := Option.some.inj hf
      exact fh_iret S hr hk (fh_nb (Or.inr rfl)) hAe hI d_Mo_isSo_163
  replace hf := fh_f c_33_2 hf
  by_cases c_33_3 : a1 = 3
  · replace hf := fh_t c_33_3 hf
    refine lv_tableIn (tgt := 164) hx hb d_Mo_isSo_33 (by rw [c_33_3]; decide) (by rw [c_33_3]; decide) (off := 131) (by rw [c_33_3]; decide) (by decide) ?_
    refine fh_aload_n S d_Mo_isSo_164 rfl (lv_at hl 4 rfl) ?_
    refine lv_iload hx hb d_Mo_isSo_165 (lv_at hl 3 rfl) ?_
    refine lv_iload hx hb d_Mo_isSo_167 (lv_at hl 2 rfl) ?_
    refine lv_iload hx hb d_Mo_isSo_169 (lv_at hl 1 rfl) ?_
    refine lv_iload hx hb d_Mo_isSo_171 (lv_at hl 0 rfl) ?_
    obtain ⟨o26, e_o26, hf⟩ := fh_b hf
    obtain ⟨r27, e_r27, hf⟩ := fh_b hf
    refine fh_callV (As := [.int x2, .int x4, .int x6, .int x8]) (rest := []) S fT_good hE hI e_o26 rfl (c_Mo_dot e_r27) fy_Mo_dot fst_Mo_dot k_147 ⟨rfl, rfl⟩ ⟨Nat.le_of_ble_eq_true rfl, Nat.le_of_ble_eq_true rfl⟩ ⟨Nat.zero_le _, Nat.zero_le _⟩ rfl hl.1 rfl (Nat.le_of_ble_eq_true rfl) d_Mo_isSo_173 (fun H locs hI => ?_)
    refine lv_lconst (v := 0) hx hb d_Mo_isSo_176 (by decide) ?_
    refine W.lcmp hx hb d_Mo_isSo_177 ?_
    refine lv_if_ne (tgt := 185) hx hb d_Mo_isSo_178 (by decide) (fun c_178 => ?_) (fun c_178 => ?_)
    · replace hf := fh_f c_178 hf
      refine lv_iconst (v := 0) hx hb d_Mo_isSo_185 (by decide) ?_
      obtain rfl := Option.some.inj hf
      exact fh_iret S hr hk (fh_nb (Or.inl rfl)) hAe hI d_Mo_isSo_186
    · replace hf := fh_t c_178 hf
      refine lv_iconst (v := 1) hx hb d_Mo_isSo_181 (by decide) ?_
      refine lv_goto (tgt := 186) hx hb d_Mo_isSo_182 (by decide) ?_
      obtain rfl := Option.some.inj hf
      exact fh_iret S hr hk (fh_nb (Or.inr rfl)) hAe hI d_Mo_isSo_186
  replace hf := fh_f c_33_3 hf
  by_cases c_33_4 : a1 = 4
  · replace hf := fh_t c_33_4 hf
    refine lv_tableIn (tgt := 187) hx hb d_Mo_isSo_33 (by rw [c_33_4]; decide) (by rw [c_33_4]; decide) (off := 154) (by rw [c_33_4]; decide) (by decide) ?_
    refine fh_aload_n S d_Mo_isSo_187 rfl (lv_at hl 4 rfl) ?_
    refine lv_iload hx hb d_Mo_isSo_188 (lv_at hl 3 rfl) ?_
    refine lv_iload hx hb d_Mo_isSo_190 (lv_at hl 2 rfl) ?_
    obtain ⟨o28, e_o28, hf⟩ := fh_b hf
    obtain ⟨r29, e_r29, hf⟩ := fh_b hf
    refine fh_callV (As := [.int x2, .int x4]) (rest := []) S fT_good hE hI e_o28 rfl (c_Mo_length e_r29) fy_Mo_length fst_Mo_length k_182 ⟨rfl, rfl⟩ ⟨Nat.le_of_ble_eq_true rfl, Nat.le_of_ble_eq_true rfl⟩ ⟨Nat.zero_le _, Nat.zero_le _⟩ rfl hl.1 rfl (Nat.le_of_ble_eq_true rfl) d_Mo_isSo_192 (fun H locs hI => ?_)
    refine fh_aload_n S d_Mo_isSo_195 rfl (lv_at hl 4 rfl) ?_
    refine lv_iload hx hb d_Mo_isSo_196 (lv_at hl 1 rfl) ?_
    refine lv_iload hx hb d_Mo_isSo_198 (lv_at hl 0 rfl) ?_
    obtain ⟨o30, e_o30, hf⟩ := fh_b hf
    obtain ⟨r31, e_r31, hf⟩ := fh_b hf
    refine fh_callV (As := [.int x6, .int x8]) (rest := [.long r29.1]) S fT_good hE hI e_o30 rfl (c_Mo_length e_r31) fy_Mo_length fst_Mo_length k_182 ⟨rfl, rfl⟩ ⟨Nat.le_of_ble_eq_true rfl, Nat.le_of_ble_eq_true rfl⟩ ⟨Nat.zero_le _, Nat.zero_le _⟩ rfl hl.1 rfl (Nat.le_of_ble_eq_true rfl) d_Mo_isSo_200 (fun H locs hI => ?_)
    refine W.lcmp hx hb d_Mo_isSo_203 ?_
    refine lv_if_ne (tgt := 211) hx hb d_Mo_isSo_204 (by decide) (fun c_204 => ?_) (fun c_204 => ?_)
    · replace hf := fh_f c_204 hf
      refine lv_iconst (v := 0) hx hb d_Mo_isSo_211 (by decide) ?_
      obtain rfl := Option.some.inj hf
      exact fh_iret S hr hk (fh_nb (Or.inl rfl)) hAe hI d_Mo_isSo_212
    · replace hf := fh_t c_204 hf
      refine lv_iconst (v := 1) hx hb d_Mo_isSo_207 (by decide) ?_
      refine lv_goto (tgt := 212) hx hb d_Mo_isSo_208 (by decide) ?_
      obtain rfl := Option.some.inj hf
      exact fh_iret S hr hk (fh_nb (Or.inr rfl)) hAe hI d_Mo_isSo_212
  replace hf := fh_f c_33_4 hf
  by_cases c_33_5 : a1 = 5
  · replace hf := fh_t c_33_5 hf
    refine lv_tableIn (tgt := 213) hx hb d_Mo_isSo_33 (by rw [c_33_5]; decide) (by rw [c_33_5]; decide) (off := 180) (by rw [c_33_5]; decide) (by decide) ?_
    refine fh_aload_n S d_Mo_isSo_213 rfl (lv_at hl 4 rfl) ?_
    refine lv_iload hx hb d_Mo_isSo_214 (lv_at hl 3 rfl) ?_
    refine lv_iload hx hb d_Mo_isSo_216 (lv_at hl 2 rfl) ?_
    refine lv_iload hx hb d_Mo_isSo_218 (lv_at hl 1 rfl) ?_
    refine lv_iload hx hb d_Mo_isSo_220 (lv_at hl 0 rfl) ?_
    obtain ⟨o32, e_o32, hf⟩ := fh_b hf
    obtain ⟨r33, e_r33, hf⟩ := fh_b hf
    refine fh_callV (As := [.int x2, .int x4, .int x6, .int x8]) (rest := []) S fT_good hE hI e_o32 rfl (c_Mo_ringOf e_r33) fy_Mo_ringOf fst_Mo_ringOf k_181 ⟨rfl, rfl⟩ ⟨Nat.le_of_ble_eq_true rfl, Nat.le_of_ble_eq_true rfl⟩ ⟨Nat.zero_le _, Nat.zero_le _⟩ rfl hl.1 rfl (Nat.le_of_ble_eq_true rfl) d_Mo_isSo_222 (fun H locs hI => ?_)
    refine lv_lconst (v := 0) hx hb d_Mo_isSo_225 (by decide) ?_
    refine W.lcmp hx hb d_Mo_isSo_226 ?_
    refine lv_if_ne (tgt := 234) hx hb d_Mo_isSo_227 (by decide) (fun c_227 => ?_) (fun c_227 => ?_)
    · replace hf := fh_f c_227 hf
      refine lv_iconst (v := 0) hx hb d_Mo_isSo_234 (by decide) ?_
      obtain rfl := Option.some.inj hf
      exact fh_iret S hr hk (fh_nb (Or.inl rfl)) hAe hI d_Mo_isSo_235
    · replace hf := fh_t c_227 hf
      refine lv_iconst (v := 1) hx hb d_Mo_isSo_230 (by decide) ?_
      refine lv_goto (tgt := 235) hx hb d_Mo_isSo_231 (by decide) ?_
      obtain rfl := Option.some.inj hf
      exact fh_iret S hr hk (fh_nb (Or.inr rfl)) hAe hI d_Mo_isSo_235
  replace hf := fh_f c_33_5 hf
  by_cases c_33_6 : a1 = 6
  · replace hf := fh_t c_33_6 hf
    refine lv_tableIn (tgt := 236) hx hb d_Mo_isSo_33 (by rw [c_33_6]; decide) (by rw [c_33_6]; decide) (off := 203) (by rw [c_33_6]; decide) (by decide) ?_
    refine lv_ldc2 hx hb hown (hts _ k_152) d_Mo_isSo_236 ?_
    refine fh_aload_n S d_Mo_isSo_239 rfl (lv_at hl 4 rfl) ?_
    refine lv_iload hx hb d_Mo_isSo_240 (lv_at hl 3 rfl) ?_
    obtain ⟨o34, e_o34, hf⟩ := fh_b hf
    obtain ⟨r35, e_r35, hf⟩ := fh_b hf
    refine fh_callV (As := [.int x2]) (rest := [.long 2]) S fT_good hE hI e_o34 rfl (c_Mo_px e_r35) fy_Mo_px fst_Mo_px k_143 ⟨rfl, rfl⟩ ⟨Nat.le_of_ble_eq_true rfl, Nat.le_of_ble_eq_true rfl⟩ ⟨Nat.zero_le _, Nat.zero_le _⟩ rfl hl.1 rfl (Nat.le_of_ble_eq_true rfl) d_Mo_isSo_242 (fun H locs hI => ?_)
    refine lv_lmul hx hb d_Mo_isSo_245 ?_
    refine fh_aload_n S d_Mo_isSo_246 rfl (lv_at hl 4 rfl) ?_
    refine lv_iload hx hb d_Mo_isSo_247 (lv_at hl 2 rfl) ?_
    obtain ⟨o36, e_o36, hf⟩ := fh_b hf
    obtain ⟨r37, e_r37, hf⟩ := fh_b hf
    refine fh_callV (As := [.int x4]) (rest := [.long (2 * r35.1)]) S fT_good hE hI e_o36 rfl (c_Mo_px e_r37) fy_Mo_px fst_Mo_px k_143 ⟨rfl, rfl⟩ ⟨Nat.le_of_ble_eq_true rfl, Nat.le_of_ble_eq_true rfl⟩ ⟨Nat.zero_le _, Nat.zero_le _⟩ rfl hl.1 rfl (Nat.le_of_ble_eq_true rfl) d_Mo_isSo_249 (fun H locs hI => ?_)
    refine lv_lsub hx hb d_Mo_isSo_252 ?_
    refine fh_aload_n S d_Mo_isSo_253 rfl (lv_at hl 4 rfl) ?_
    refine lv_iload hx hb d_Mo_isSo_254 (lv_at hl 1 rfl) ?_
    obtain ⟨o38, e_o38, hf⟩ := fh_b hf
    obtain ⟨r39, e_r39, hf⟩ := fh_b hf
    refine fh_callV (As := [.int x6]) (rest := [.long ((2 * r35.1) - r37.1)]) S fT_good hE hI e_o38 rfl (c_Mo_px e_r39) fy_Mo_px fst_Mo_px k_143 ⟨rfl, rfl⟩ ⟨Nat.le_of_ble_eq_true rfl, Nat.le_of_ble_eq_true rfl⟩ ⟨Nat.zero_le _, Nat.zero_le _⟩ rfl hl.1 rfl (Nat.le_of_ble_eq_true rfl) d_Mo_isSo_256 (fun H locs hI => ?_)
    refine lv_lsub hx hb d_Mo_isSo_259 ?_
    obtain ⟨r40, e_r40, hf⟩ := fh_b hf
    refine fh_callS (As := [.long (((2 * r35.1) - r37.1) - r39.1)]) (rest := []) S fT_good hE hI (c_Mo_mod e_r40) fy_Mo_mod fst_Mo_mod k_135 ⟨rfl, rfl⟩ ⟨Nat.le_of_ble_eq_true rfl, Nat.le_of_ble_eq_true rfl⟩ ⟨Nat.zero_le _, Nat.zero_le _⟩ rfl hl.1 rfl (Nat.le_of_ble_eq_true rfl) d_Mo_isSo_260 (fun H locs hI => ?_)
    refine lv_lconst (v := 0) hx hb d_Mo_isSo_263 (by decide) ?_
    refine W.lcmp hx hb d_Mo_isSo_264 ?_
    refine lv_if_ne (tgt := 304) hx hb d_Mo_isSo_265 (by decide) (fun c_265 => ?_) (fun c_265 => ?_)
    · replace hf := fh_f c_265 hf
      refine lv_iconst (v := 0) hx hb d_Mo_isSo_304 (by decide) ?_
      obtain rfl := Option.some.inj hf
      exact fh_iret S hr hk (fh_nb (Or.inl rfl)) hAe hI d_Mo_isSo_305
    · replace hf := fh_t c_265 hf
      refine lv_ldc2 hx hb hown (hts _ k_152) d_Mo_isSo_268 ?_
      refine fh_aload_n S d_Mo_isSo_271 rfl (lv_at hl 4 rfl) ?_
      refine lv_iload hx hb d_Mo_isSo_272 (lv_at hl 3 rfl) ?_
      obtain ⟨o41, e_o41, hf⟩ := fh_b hf
      obtain ⟨r42, e_r42, hf⟩ := fh_b hf
      refine fh_callV (As := [.int x2]) (rest := [.long 2]) S fT_good hE hI e_o41 rfl (c_Mo_py e_r42) fy_Mo_py fst_Mo_py k_144 ⟨rfl, rfl⟩ ⟨Nat.le_of_ble_eq_true rfl, Nat.le_of_ble_eq_true rfl⟩ ⟨Nat.zero_le _, Nat.zero_le _⟩ rfl hl.1 rfl (Nat.le_of_ble_eq_true rfl) d_Mo_isSo_274 (fun H locs hI => ?_)
      refine lv_lmul hx hb d_Mo_isSo_277 ?_
      refine fh_aload_n S d_Mo_isSo_278 rfl (lv_at hl 4 rfl) ?_
      refine lv_iload hx hb d_Mo_isSo_279 (lv_at hl 2 rfl) ?_
      obtain ⟨o43, e_o43, hf⟩ := fh_b hf
      obtain ⟨r44, e_r44, hf⟩ := fh_b hf
      refine fh_callV (As := [.int x4]) (rest := [.long (2 * r42.1)]) S fT_good hE hI e_o43 rfl (c_Mo_py e_r44) fy_Mo_py fst_Mo_py k_144 ⟨rfl, rfl⟩ ⟨Nat.le_of_ble_eq_true rfl, Nat.le_of_ble_eq_true rfl⟩ ⟨Nat.zero_le _, Nat.zero_le _⟩ rfl hl.1 rfl (Nat.le_of_ble_eq_true rfl) d_Mo_isSo_281 (fun H locs hI => ?_)
      refine lv_lsub hx hb d_Mo_isSo_284 ?_
      refine fh_aload_n S d_Mo_isSo_285 rfl (lv_at hl 4 rfl) ?_
      refine lv_iload hx hb d_Mo_isSo_286 (lv_at hl 1 rfl) ?_
      obtain ⟨o45, e_o45, hf⟩ := fh_b hf
      obtain ⟨r46, e_r46, hf⟩ := fh_b hf
      refine fh_callV (As := [.int x6]) (rest := [.long ((2 * r42.1) - r44.1)]) S fT_good hE hI e_o45 rfl (c_Mo_py e_r46) fy_Mo_py fst_Mo_py k_144 ⟨rfl, rfl⟩ ⟨Nat.le_of_ble_eq_true rfl, Nat.le_of_ble_eq_true rfl⟩ ⟨Nat.zero_le _, Nat.zero_le _⟩ rfl hl.1 rfl (Nat.le_of_ble_eq_true rfl) d_Mo_isSo_288 (fun H locs hI => ?_)
      refine lv_lsub hx hb d_Mo_isSo_291 ?_
      obtain ⟨r47, e_r47, hf⟩ := fh_b hf
      refine fh_callS (As := [.long (((2 * r42.1) - r44.1) - r46.1)]) (rest := []) S fT_good hE hI (c_Mo_mod e_r47) fy_Mo_mod fst_Mo_mod k_135 ⟨rfl, rfl⟩ ⟨Nat.le_of_ble_eq_true rfl, Nat.le_of_ble_eq_true rfl⟩ ⟨Nat.zero_le _, Nat.zero_le _⟩ rfl hl.1 rfl (Nat.le_of_ble_eq_true rfl) d_Mo_isSo_292 (fun H locs hI => ?_)
      refine lv_lconst (v := 0) hx hb d_Mo_isSo_295 (by decide) ?_
      refine W.lcmp hx hb d_Mo_isSo_296 ?_
      refine lv_if_ne (tgt := 304) hx hb d_Mo_isSo_297 (by decide) (fun c_297 => ?_) (fun c_297 => ?_)
      · replace hf := fh_f c_297 hf
        refine lv_iconst (v := 0) hx hb d_Mo_isSo_304 (by decide) ?_
        obtain rfl := Option.some.inj hf
        exact fh_iret S hr hk (fh_nb (Or.inl rfl)) hAe hI d_Mo_isSo_305
      · replace hf := fh_t c_297 hf
        refine lv_iconst (v := 1) hx hb d_Mo_isSo_300 (by decide) ?_
        refine lv_goto (tgt := 305) hx hb d_Mo_isSo_301 (by decide) ?_
        obtain rfl := Option.some.inj hf
        exact fh_iret S hr hk (fh_nb (Or.inr rfl)) hAe hI d_Mo_isSo_305
  replace hf := fh_f c_33_6 hf
  by_cases c_33_7 : a1 = 7
  · replace hf := fh_t c_33_7 hf
    refine lv_tableIn (tgt := 306) hx hb d_Mo_isSo_33 (by rw [c_33_7]; decide) (by rw [c_33_7]; decide) (off := 273) (by rw [c_33_7]; decide) (by decide) ?_
    refine fh_aload_n S d_Mo_isSo_306 rfl (lv_at hl 4 rfl) ?_
    refine lv_iload hx hb d_Mo_isSo_307 (lv_at hl 3 rfl) ?_
    refine lv_iload hx hb d_Mo_isSo_309 (lv_at hl 2 rfl) ?_
    refine lv_iload hx hb d_Mo_isSo_311 (lv_at hl 3 rfl) ?_
    refine lv_iload hx hb d_Mo_isSo_313 (lv_at hl 1 rfl) ?_
    obtain ⟨o48, e_o48, hf⟩ := fh_b hf
    obtain ⟨r49, e_r49, hf⟩ := fh_b hf
    refine fh_callV (As := [.int x2, .int x4, .int x2, .int x6]) (rest := []) S fT_good hE hI e_o48 rfl (c_Mo_cross e_r49) fy_Mo_cross fst_Mo_cross k_151 ⟨rfl, rfl⟩ ⟨Nat.le_of_ble_eq_true rfl, Nat.le_of_ble_eq_true rfl⟩ ⟨Nat.zero_le _, Nat.zero_le _⟩ rfl hl.1 rfl (Nat.le_of_ble_eq_true rfl) d_Mo_isSo_315 (fun H locs hI => ?_)
    obtain ⟨r50, e_r50, hf⟩ := fh_b hf
    refine fh_callS (As := [.long r49.1]) (rest := []) S fT_good hE hI (c_Mo_square e_r50) fy_Mo_square fst_Mo_square k_179 ⟨rfl, rfl⟩ ⟨Nat.le_of_ble_eq_true rfl, Nat.le_of_ble_eq_true rfl⟩ ⟨Nat.zero_le _, Nat.zero_le _⟩ rfl hl.1 rfl (Nat.le_of_ble_eq_true rfl) d_Mo_isSo_318 (fun H locs hI => ?_)
    refine fh_aload_n S d_Mo_isSo_321 rfl (lv_at hl 4 rfl) ?_
    refine lv_iload hx hb d_Mo_isSo_322 (lv_at hl 0 rfl) ?_
    refine fh_aload_n S d_Mo_isSo_324 rfl (lv_at hl 4 rfl) ?_
    obtain ⟨x51, e_x51, hf⟩ := fh_b hf
    refine fh_geta S hE.1 hI e_x51 (hc := rfl) (hin := in_6) (by decide) (hts _ k_178) d_Mo_isSo_325 ?_
    refine lv_iconst (v := 4) hx hb d_Mo_isSo_328 (by decide) ?_
    obtain ⟨x52, e_x52, hf⟩ := fh_b hf
    refine fh_iald S hE.1 hI 0 rfl e_x52 d_Mo_isSo_329 ?_
    refine lv_iload hx hb d_Mo_isSo_330 (lv_at hl 0 rfl) ?_
    refine fh_aload_n S d_Mo_isSo_332 rfl (lv_at hl 4 rfl) ?_
    obtain ⟨x53, e_x53, hf⟩ := fh_b hf
    refine fh_geta S hE.1 hI e_x53 (hc := rfl) (hin := in_6) (by decide) (hts _ k_178) d_Mo_isSo_333 ?_
    refine lv_iconst (v := 5) hx hb d_Mo_isSo_336 (by decide) ?_
    obtain ⟨x54, e_x54, hf⟩ := fh_b hf
    refine fh_iald S hE.1 hI 0 rfl e_x54 d_Mo_isSo_337 ?_
    obtain ⟨o55, e_o55, hf⟩ := fh_b hf
    obtain ⟨r56, e_r56, hf⟩ := fh_b hf
    refine fh_callV (As := [.int x8, .int x52, .int x8, .int x54]) (rest := [.long r50.1]) S fT_good hE hI e_o55 rfl (c_Mo_cross e_r56) fy_Mo_cross fst_Mo_cross k_151 ⟨rfl, rfl⟩ ⟨Nat.le_of_ble_eq_true rfl, Nat.le_of_ble_eq_true rfl⟩ ⟨Nat.zero_le _, Nat.zero_le _⟩ rfl hl.1 rfl (Nat.le_of_ble_eq_true rfl) d_Mo_isSo_338 (fun H locs hI => ?_)
    obtain ⟨r57, e_r57, hf⟩ := fh_b hf
    refine fh_callS (As := [.long r56.1]) (rest := [.long r50.1]) S fT_good hE hI (c_Mo_square e_r57) fy_Mo_square fst_Mo_square k_179 ⟨rfl, rfl⟩ ⟨Nat.le_of_ble_eq_true rfl, Nat.le_of_ble_eq_true rfl⟩ ⟨Nat.zero_le _, Nat.zero_le _⟩ rfl hl.1 rfl (Nat.le_of_ble_eq_true rfl) d_Mo_isSo_341 (fun H locs hI => ?_)
    refine W.lcmp hx hb d_Mo_isSo_344 ?_
    refine lv_if_ne (tgt := 352) hx hb d_Mo_isSo_345 (by decide) (fun c_345 => ?_) (fun c_345 => ?_)
    · replace hf := fh_f c_345 hf
      refine lv_iconst (v := 0) hx hb d_Mo_isSo_352 (by decide) ?_
      obtain rfl := Option.some.inj hf
      exact fh_iret S hr hk (fh_nb (Or.inl rfl)) hAe hI d_Mo_isSo_353
    · replace hf := fh_t c_345 hf
      refine lv_iconst (v := 1) hx hb d_Mo_isSo_348 (by decide) ?_
      refine lv_goto (tgt := 353) hx hb d_Mo_isSo_349 (by decide) ?_
      obtain rfl := Option.some.inj hf
      exact fh_iret S hr hk (fh_nb (Or.inr rfl)) hAe hI d_Mo_isSo_353
  replace hf := fh_f c_33_7 hf
  have c_33 : a1.toInt < 0 ∨ 7 < a1.toInt := by
    have q0 : a1.toInt ≠ 0 := fun q => c_33_0 (Int32.toInt_inj.mp (q.trans (by decide)))
    have q1 : a1.toInt ≠ 1 := fun q => c_33_1 (Int32.toInt_inj.mp (q.trans (by decide)))
    have q2 : a1.toInt ≠ 2 := fun q => c_33_2 (Int32.toInt_inj.mp (q.trans (by decide)))
    have q3 : a1.toInt ≠ 3 := fun q => c_33_3 (Int32.toInt_inj.mp (q.trans (by decide)))
    have q4 : a1.toInt ≠ 4 := fun q => c_33_4 (Int32.toInt_inj.mp (q.trans (by decide)))
    have q5 : a1.toInt ≠ 5 := fun q => c_33_5 (Int32.toInt_inj.mp (q.trans (by decide)))
    have q6 : a1.toInt ≠ 6 := fun q => c_33_6 (Int32.toInt_inj.mp (q.trans (by decide)))
    have q7 : a1.toInt ≠ 7 := fun q => c_33_7 (Int32.toInt_inj.mp (q.trans (by decide)))
    omega
  refine lv_tableOut (tgt := 354) hx hb d_Mo_isSo_33 c_33 (by decide) ?_
  refine lv_iload_n hx hb d_Mo_isSo_354 rfl (lv_at hl 6 rfl) ?_
  refine lv_i2l hx hb d_Mo_isSo_355 rfl ?_
  refine fh_aload_n S d_Mo_isSo_356 rfl (lv_at hl 4 rfl) ?_
  refine lv_iload hx hb d_Mo_isSo_357 (lv_at hl 3 rfl) ?_
  refine lv_iload hx hb d_Mo_isSo_359 (lv_at hl 2 rfl) ?_
  obtain ⟨o9, e_o9, hf⟩ := fh_b hf
  obtain ⟨r10, e_r10, hf⟩ := fh_b hf
  refine fh_callV (As := [.int x2, .int x4]) (rest := [.long a2.toInt64]) S fT_good hE hI e_o9 rfl (c_Mo_length e_r10) fy_Mo_length fst_Mo_length k_182 ⟨rfl, rfl⟩ ⟨Nat.le_of_ble_eq_true rfl, Nat.le_of_ble_eq_true rfl⟩ ⟨Nat.zero_le _, Nat.zero_le _⟩ rfl hl.1 rfl (Nat.le_of_ble_eq_true rfl) d_Mo_isSo_361 (fun H locs hI => ?_)
  refine lv_lmul hx hb d_Mo_isSo_364 ?_
  refine lv_iload_n hx hb d_Mo_isSo_365 rfl (lv_at hl 7 rfl) ?_
  refine lv_i2l hx hb d_Mo_isSo_366 rfl ?_
  refine fh_aload_n S d_Mo_isSo_367 rfl (lv_at hl 4 rfl) ?_
  refine lv_iload hx hb d_Mo_isSo_368 (lv_at hl 1 rfl) ?_
  refine lv_iload hx hb d_Mo_isSo_370 (lv_at hl 0 rfl) ?_
  obtain ⟨o11, e_o11, hf⟩ := fh_b hf
  obtain ⟨r12, e_r12, hf⟩ := fh_b hf
  refine fh_callV (As := [.int x6, .int x8]) (rest := [.long a3.toInt64, .long (a2.toInt64 * r10.1)]) S fT_good hE hI e_o11 rfl (c_Mo_length e_r12) fy_Mo_length fst_Mo_length k_182 ⟨rfl, rfl⟩ ⟨Nat.le_of_ble_eq_true rfl, Nat.le_of_ble_eq_true rfl⟩ ⟨Nat.zero_le _, Nat.zero_le _⟩ rfl hl.1 rfl (Nat.le_of_ble_eq_true rfl) d_Mo_isSo_372 (fun H locs hI => ?_)
  refine lv_lmul hx hb d_Mo_isSo_375 ?_
  refine lv_lsub hx hb d_Mo_isSo_376 ?_
  obtain ⟨r13, e_r13, hf⟩ := fh_b hf
  refine fh_callS (As := [.long ((a2.toInt64 * r10.1) - (a3.toInt64 * r12.1))]) (rest := []) S fT_good hE hI (c_Mo_mod e_r13) fy_Mo_mod fst_Mo_mod k_135 ⟨rfl, rfl⟩ ⟨Nat.le_of_ble_eq_true rfl, Nat.le_of_ble_eq_true rfl⟩ ⟨Nat.zero_le _, Nat.zero_le _⟩ rfl hl.1 rfl (Nat.le_of_ble_eq_true rfl) d_Mo_isSo_377 (fun H locs hI => ?_)
  refine lv_lconst (v := 0) hx hb d_Mo_isSo_380 (by decide) ?_
  refine W.lcmp hx hb d_Mo_isSo_381 ?_
  refine lv_if_ne (tgt := 389) hx hb d_Mo_isSo_382 (by decide) (fun c_382 => ?_) (fun c_382 => ?_)
  · replace hf := fh_f c_382 hf
    refine lv_iconst (v := 0) hx hb d_Mo_isSo_389 (by decide) ?_
    obtain rfl := Option.some.inj hf
    exact fh_iret S hr hk (fh_nb (Or.inl rfl)) hAe hI d_Mo_isSo_390
  · replace hf := fh_t c_382 hf
    refine lv_iconst (v := 1) hx hb d_Mo_isSo_385 (by decide) ?_
    refine lv_goto (tgt := 390) hx hb d_Mo_isSo_386 (by decide) ?_
    obtain rfl := Option.some.inj hf
    exact fh_iret S hr hk (fh_nb (Or.inr rfl)) hAe hI d_Mo_isSo_390
theorem d_Mo_isAlways_0 : decode c0_Mo_isAlways 0 = .ok (.aload_n 0, 1) := by decide +kernel
theorem d_Mo_isAlways_1 : decode c0_Mo_isAlways 1 = .ok (.invokevirtual 162, 3) := by decide +kernel
theorem d_Mo_isAlways_4 : decode c0_Mo_isAlways 4 = .ok (.ifCond .le 7, 3) := by decide +kernel
theorem d_Mo_isAlways_7 : decode c0_Mo_isAlways 7 = .ok (.iconst 1, 1) := by decide +kernel
theorem d_Mo_isAlways_8 : decode c0_Mo_isAlways 8 = .ok (.goto 4, 3) := by decide +kernel
theorem d_Mo_isAlways_11 : decode c0_Mo_isAlways 11 = .ok (.iconst 0, 1) := by decide +kernel
theorem d_Mo_isAlways_12 : decode c0_Mo_isAlways 12 = .ok (.istore 4, 2) := by decide +kernel
theorem d_Mo_isAlways_14 : decode c0_Mo_isAlways 14 = .ok (.iconst 0, 1) := by decide +kernel
theorem d_Mo_isAlways_15 : decode c0_Mo_isAlways 15 = .ok (.istore 5, 2) := by decide +kernel
theorem d_Mo_isAlways_17 : decode c0_Mo_isAlways 17 = .ok (.iload 5, 2) := by decide +kernel
theorem d_Mo_isAlways_19 : decode c0_Mo_isAlways 19 = .ok (.aload_n 0, 1) := by decide +kernel
theorem d_Mo_isAlways_20 : decode c0_Mo_isAlways 20 = .ok (.getfield 20, 3) := by decide +kernel
theorem d_Mo_isAlways_23 : decode c0_Mo_isAlways 23 = .ok (.if_icmp .ge 48, 3) := by decide +kernel
theorem d_Mo_isAlways_26 : decode c0_Mo_isAlways 26 = .ok (.iload 4, 2) := by decide +kernel
theorem d_Mo_isAlways_28 : decode c0_Mo_isAlways 28 = .ok (.ifCond .eq 43, 3) := by decide +kernel
theorem d_Mo_isAlways_31 : decode c0_Mo_isAlways 31 = .ok (.aload_n 0, 1) := by decide +kernel
theorem d_Mo_isAlways_32 : decode c0_Mo_isAlways 32 = .ok (.iload 5, 2) := by decide +kernel
theorem d_Mo_isAlways_34 : decode c0_Mo_isAlways 34 = .ok (.putfield 65, 3) := by decide +kernel
theorem d_Mo_isAlways_37 : decode c0_Mo_isAlways 37 = .ok (.aload_n 0, 1) := by decide +kernel
theorem d_Mo_isAlways_38 : decode c0_Mo_isAlways 38 = .ok (.getfield 30, 3) := by decide +kernel
theorem d_Mo_isAlways_41 : decode c0_Mo_isAlways 41 = .ok (.iload 5, 2) := by decide +kernel
theorem d_Mo_isAlways_43 : decode c0_Mo_isAlways 43 = .ok (.iaload, 1) := by decide +kernel
theorem d_Mo_isAlways_44 : decode c0_Mo_isAlways 44 = .ok (.iconst (-1), 1) := by decide +kernel
theorem d_Mo_isAlways_45 : decode c0_Mo_isAlways 45 = .ok (.if_icmp .ne 13, 3) := by decide +kernel
theorem d_Mo_isAlways_48 : decode c0_Mo_isAlways 48 = .ok (.aload_n 0, 1) := by decide +kernel
theorem d_Mo_isAlways_49 : decode c0_Mo_isAlways 49 = .ok (.iload_n 1, 1) := by decide +kernel
theorem d_Mo_isAlways_50 : decode c0_Mo_isAlways 50 = .ok (.iload_n 2, 1) := by decide +kernel
theorem d_Mo_isAlways_51 : decode c0_Mo_isAlways 51 = .ok (.iload_n 3, 1) := by decide +kernel
theorem d_Mo_isAlways_52 : decode c0_Mo_isAlways 52 = .ok (.invokevirtual 182, 3) := by decide +kernel
theorem d_Mo_isAlways_55 : decode c0_Mo_isAlways 55 = .ok (.ifCond .eq 7, 3) := by decide +kernel
theorem d_Mo_isAlways_58 : decode c0_Mo_isAlways 58 = .ok (.iconst 1, 1) := by decide +kernel
theorem d_Mo_isAlways_59 : decode c0_Mo_isAlways 59 = .ok (.goto 4, 3) := by decide +kernel
theorem d_Mo_isAlways_62 : decode c0_Mo_isAlways 62 = .ok (.iconst 0, 1) := by decide +kernel
theorem d_Mo_isAlways_63 : decode c0_Mo_isAlways 63 = .ok (.istore 4, 2) := by decide +kernel
theorem d_Mo_isAlways_65 : decode c0_Mo_isAlways 65 = .ok (.iinc 5 1, 3) := by decide +kernel
theorem d_Mo_isAlways_68 : decode c0_Mo_isAlways 68 = .ok (.goto (-51), 3) := by decide +kernel
theorem d_Mo_isAlways_71 : decode c0_Mo_isAlways 71 = .ok (.iload 4, 2) := by decide +kernel
theorem d_Mo_isAlways_73 : decode c0_Mo_isAlways 73 = .ok (.ireturn, 1) := by decide +kernel
def b_Mo_isAlways_63 (K : Nat → ClassId) (N : Nat) (k17 : Int32 → Int32 → Int32 → Int32 → Int32 → fh_H → Option (Int32 × fh_H)) (o : Nat) (v1 : Int32) (v2 : Int32) (v3 : Int32) (v5 : Int32) (w0 : Int32) (h : fh_H) : Option (Int32 × fh_H) :=
  (some (v5 + 1)).bind fun x1 => k17 v1 v2 v3 w0 x1 h
def b_Mo_isAlways_58 (K : Nat → ClassId) (N : Nat) (k17 : Int32 → Int32 → Int32 → Int32 → Int32 → fh_H → Option (Int32 × fh_H)) (o : Nat) (v1 : Int32) (v2 : Int32) (v3 : Int32) (v5 : Int32) (h : fh_H) : Option (Int32 × fh_H) :=
  b_Mo_isAlways_63 K N k17 o v1 v2 v3 v5 1 h
def b_Mo_isAlways_17 (K : Nat → ClassId) (N : Nat) (k17 : Int32 → Int32 → Int32 → Int32 → Int32 → fh_H → Option (Int32 × fh_H)) (o : Nat) (v1 : Int32) (v2 : Int32) (v3 : Int32) (v4 : Int32) (v5 : Int32) (h : fh_H) : Option (Int32 × fh_H) :=
  (fg_i h (some o) 6 4).bind fun x1 => if x1 ≤ v5 then (fz v4 h) else (if v4 = 0 then (fz v4 h) else ((fp_v h (some o) 6 8 (.int v5)).bind fun h2 => (fg_a h2 (some o) 6 7).bind fun x3 => (fa_i (K 0) h2 x3 v5).bind fun x4 => if x4 = (-1) then ((fg_o h2 (some o) 6).bind fun o5 => (f_Mo_isSo K N o5 v1 v2 v3 h2).bind fun r6 => if r6.1 = 0 then (b_Mo_isAlways_63 K N k17 o v1 v2 v3 v5 0 r6.2) else (b_Mo_isAlways_58 K N k17 o v1 v2 v3 v5 r6.2)) else (b_Mo_isAlways_58 K N k17 o v1 v2 v3 v5 h2)))
def l_Mo_isAlways_17 (K : Nat → ClassId) (N : Nat) (o : Nat) : Nat → Int32 → Int32 → Int32 → Int32 → Int32 → fh_H → Option (Int32 × fh_H)
  | 0, _, _, _, _, _, _ => none
  | n + 1, v1, v2, v3, v4, v5, h => b_Mo_isAlways_17 K N (l_Mo_isAlways_17 K N o n) o v1 v2 v3 v4 v5 h
def b_Mo_isAlways_12 (K : Nat → ClassId) (N : Nat) (o : Nat) (v1 : Int32) (v2 : Int32) (v3 : Int32) (w0 : Int32) (h : fh_H) : Option (Int32 × fh_H) :=
  l_Mo_isAlways_17 K N o N v1 v2 v3 w0 0 h
def f_Mo_isAlways (K : Nat → ClassId) (N : Nat) (o : Nat) (a1 : Int32) (a2 : Int32) (a3 : Int32) (h0 : fh_H) : Option (Int32 × fh_H) :=
  (fg_o h0 (some o) 6).bind fun o1 => (f_Mo_standing K N o1 h0).bind fun r2 => if r2.1 ≤ 0 then (b_Mo_isAlways_12 K N o a1 a2 a3 0 r2.2) else (b_Mo_isAlways_12 K N o a1 a2 a3 1 r2.2)
set_option maxHeartbeats 4000000 in
set_option maxRecDepth 100000 in
theorem c_Mo_isAlways {l : Launch} {D : va_G} {K : Nat → ClassId} {t : Nat → Nat} {N : Nat} {o : Nat} {a1 : Int32} {a2 : Int32} {a3 : Int32} {h0 : fh_H} {res : Int32 × fh_H} (hf : f_Mo_isAlways K N o a1 a2 a3 h0 = some res) : fC l D K t y_Mo_isAlways c0_Mo_isAlways 6 (some .boolean) rm_Mo_isAlways [.ref o, .int a1, .int a2, .int a3] h0 (some (.int res.1)) res.2 := by
  refine fh_body (by decide) (Nat.le_of_ble_eq_true rfl) ?_
  intro p e s m below meth c A ls S hr hk hnm hE hAe hI hl
  obtain ⟨hx, hb, hml, hown, hts⟩ := id S
  have hl : lv_has ls 6 [(0, va_rf (some o)), (1, .int a1), (2, .int a2), (3, .int a3)] := hl
  have L17 : ∀ (n17 : Nat) (v1 : Int32) (v2 : Int32) (v3 : Int32) (v4 : Int32) (v5 : Int32) (h : fh_H) (H : Heap) (locs : List Loc) (ls : Array Slot), lv_has ls 6 [(0, va_rf (some o)), (1, .int v1), (2, .int v2), (3, .int v3), (4, .int v4), (5, .int v5)] → fh_I D classes A s.heap h H locs → l_Mo_isAlways_17 K N o n17 v1 v2 v3 v4 v5 h = some res → W p l e rm_Mo_isAlways s m [.ref o, .int a1, .int a2, .int a3].toArray below meth c H locs 0 0 (MQ below (fh_Q D classes h0 s.heap.size (some (.int res.1)) res.2) [.ref o, .int a1, .int a2, .int a3].toArray s 0 0 A) (F0 m 17 ls []) := by
    intro n17
    induction n17 with
    | zero =>
      intro v1 v2 v3 v4 v5 h H locs ls hl hI hf
      exact fh_no hf
    | succ n17 ih17 =>
      have B63 : ∀ (v1 : Int32) (v2 : Int32) (v3 : Int32) (v5 : Int32) (w0 : Int32) (h : fh_H) (H : Heap) (locs : List Loc) (ls : Array Slot), lv_has ls 6 [(0, va_rf (some o)), (1, .int v1), (2, .int v2), (3, .int v3), (5, .int v5)] → fh_I D classes A s.heap h H locs → b_Mo_isAlways_63 K N (l_Mo_isAlways_17 K N o n17) o v1 v2 v3 v5 w0 h = some res → W p l e rm_Mo_isAlways s m [.ref o, .int a1, .int a2, .int a3].toArray below meth c H locs 0 0 (MQ below (fh_Q D classes h0 s.heap.size (some (.int res.1)) res.2) [.ref o, .int a1, .int a2, .int a3].toArray s 0 0 A) (F0 m 63 ls [.int w0]) := by
        intro v1 v2 v3 v5 w0 h H locs ls hl hI hf
        unfold b_Mo_isAlways_63 at hf
        refine lv_istore (lv' := [(4, .int w0), (0, va_rf (some o)), (1, .int v1), (2, .int v2), (3, .int v3), (5, .int v5)]) hx hb d_Mo_isAlways_63 hl (by decide) rfl (fun ls hl => ?_)
        obtain ⟨x1, e_x1, hf⟩ := fh_b hf
        refine lv_iinc (v := x1) (lv' := [(5, .int x1), (4, .int w0), (0, va_rf (some o)), (1, .int v1), (2, .int v2), (3, .int v3)]) hx hb d_Mo_isAlways_65 hl (k := 5) rfl (by rw [fh_qe e_x1]; rfl) (by decide) rfl (fun ls hl => ?_)
        refine lv_goto (tgt := 17) hx hb d_Mo_isAlways_68 (by decide) ?_
        exact ih17 v1 v2 v3 w0 x1 h _ _ _ (lv_sub hl [2, 3, 4, 5, 1, 0] rfl) hI hf
      have B58 : ∀ (v1 : Int32) (v2 : Int32) (v3 : Int32) (v5 : Int32) (h : fh_H) (H : Heap) (locs : List Loc) (ls : Array Slot), lv_has ls 6 [(0, va_rf (some o)), (1, .int v1), (2, .int v2), (3, .int v3), (5, .int v5)] → fh_I D classes A s.heap h H locs → b_Mo_isAlways_58 K N (l_Mo_isAlways_17 K N o n17) o v1 v2 v3 v5 h = some res → W p l e rm_Mo_isAlways s m [.ref o, .int a1, .int a2, .int a3].toArray below meth c H locs 0 0 (MQ below (fh_Q D classes h0 s.heap.size (some (.int res.1)) res.2) [.ref o, .int a1, .int a2, .int a3].toArray s 0 0 A) (F0 m 58 ls []) := by
        intro v1 v2 v3 v5 h H locs ls hl hI hf
        unfold b_Mo_isAlways_58 at hf
        refine lv_iconst (v := 1) hx hb d_Mo_isAlways_58 (by decide) ?_
        refine lv_goto (tgt := 63) hx hb d_Mo_isAlways_59 (by decide) ?_
        exact B63 v1 v2 v3 v5 1 h _ _ _ (lv_sub hl [0, 1, 2, 3, 4] rfl) hI hf
      intro v1 v2 v3 v4 v5 h H locs ls hl hI hf
      have hf : b_Mo_isAlways_17 K N (l_Mo_isAlways_17 K N o n17) o v1 v2 v3 v4 v5 h = some res := hf
      unfold b_Mo_isAlways_17 at hf
      refine lv_iload hx hb d_Mo_isAlways_17 (lv_at hl 5 rfl) ?_
      refine fh_aload_n S d_Mo_isAlways_19 rfl (lv_at hl 0 rfl) ?_
      obtain ⟨x1, e_x1, hf⟩ := fh_b hf
      refine fh_geti S hE.1 hI e_x1 (hc := rfl) (hin := in_6) (by decide) (hts _ k_168) d_Mo_isAlways_20 ?_
      refine lv_icmp_ge (tgt := 71) hx hb d_Mo_isAlways_23 (by decide) (fun c_23 => ?_) (fun c_23 => ?_)
      · replace hf := fh_t c_23 hf
        refine lv_iload hx hb d_Mo_isAlways_71 (lv_at hl 4 rfl) ?_
        obtain ⟨hz, rfl⟩ := fz_s hf
        exact fh_iret S hr hk (fh_nb hz) hAe hI d_Mo_isAlways_73
      · replace hf := fh_f c_23 hf
        refine lv_iload hx hb d_Mo_isAlways_26 (lv_at hl 4 rfl) ?_
        refine lv_if_eq (tgt := 71) hx hb d_Mo_isAlways_28 (by decide) (fun c_28 => ?_) (fun c_28 => ?_)
        · replace hf := fh_t c_28 hf
          refine lv_iload hx hb d_Mo_isAlways_71 (lv_at hl 4 rfl) ?_
          obtain ⟨hz, rfl⟩ := fz_s hf
          exact fh_iret S hr hk (fh_nb hz) hAe hI d_Mo_isAlways_73
        · replace hf := fh_f c_28 hf
          refine fh_aload_n S d_Mo_isAlways_31 rfl (lv_at hl 0 rfl) ?_
          refine lv_iload hx hb d_Mo_isAlways_32 (lv_at hl 5 rfl) ?_
          obtain ⟨h2, e_h2, hf⟩ := fh_b hf
          refine fh_putv S hE.1 hI e_h2 (hc := rfl) (hin := in_6) tok_6 nok_6 (by decide) (hts _ k_141) rfl rfl rfl d_Mo_isAlways_34 (fun H locs hI => ?_)
          refine fh_aload_n S d_Mo_isAlways_37 rfl (lv_at hl 0 rfl) ?_
          obtain ⟨x3, e_x3, hf⟩ := fh_b hf
          refine fh_geta S hE.1 hI e_x3 (hc := rfl) (hin := in_6) (by decide) (hts _ k_162) d_Mo_isAlways_38 ?_
          refine lv_iload hx hb d_Mo_isAlways_41 (lv_at hl 5 rfl) ?_
          obtain ⟨x4, e_x4, hf⟩ := fh_b hf
          refine fh_iald S hE.1 hI 0 rfl e_x4 d_Mo_isAlways_43 ?_
          refine lv_iconst (v := (-1)) hx hb d_Mo_isAlways_44 (by decide) ?_
          refine lv_icmp_ne (tgt := 58) hx hb d_Mo_isAlways_45 (by decide) (fun c_45 => ?_) (fun c_45 => ?_)
          · replace hf := fh_f c_45 hf
            exact B58 v1 v2 v3 v5 h2 _ _ _ (lv_sub hl [0, 1, 2, 3, 5] rfl) hI hf
          · replace hf := fh_t c_45 hf
            refine fh_aload_n S d_Mo_isAlways_48 rfl (lv_at hl 0 rfl) ?_
            refine lv_iload_n hx hb d_Mo_isAlways_49 rfl (lv_at hl 1 rfl) ?_
            refine lv_iload_n hx hb d_Mo_isAlways_50 rfl (lv_at hl 2 rfl) ?_
            refine lv_iload_n hx hb d_Mo_isAlways_51 rfl (lv_at hl 3 rfl) ?_
            obtain ⟨o5, e_o5, hf⟩ := fh_b hf
            obtain ⟨r6, e_r6, hf⟩ := fh_b hf
            refine fh_callV (As := [.int v1, .int v2, .int v3]) (rest := []) S fT_good hE hI e_o5 rfl (c_Mo_isSo e_r6) fy_Mo_isSo fst_Mo_isSo k_183 ⟨rfl, rfl⟩ ⟨Nat.le_of_ble_eq_true rfl, Nat.le_of_ble_eq_true rfl⟩ ⟨Nat.zero_le _, Nat.zero_le _⟩ rfl hl.1 rfl (Nat.le_of_ble_eq_true rfl) d_Mo_isAlways_52 (fun H locs hI => ?_)
            refine lv_if_eq (tgt := 62) hx hb d_Mo_isAlways_55 (by decide) (fun c_55 => ?_) (fun c_55 => ?_)
            · replace hf := fh_t c_55 hf
              refine lv_iconst (v := 0) hx hb d_Mo_isAlways_62 (by decide) ?_
              exact B63 v1 v2 v3 v5 0 r6.2 _ _ _ (lv_sub hl [0, 1, 2, 3, 5] rfl) hI hf
            · replace hf := fh_f c_55 hf
              exact B58 v1 v2 v3 v5 r6.2 _ _ _ (lv_sub hl [0, 1, 2, 3, 5] rfl) hI hf
  have B12 : ∀ (v1 : Int32) (v2 : Int32) (v3 : Int32) (w0 : Int32) (h : fh_H) (H : Heap) (locs : List Loc) (ls : Array Slot), lv_has ls 6 [(0, va_rf (some o)), (1, .int v1), (2, .int v2), (3, .int v3)] → fh_I D classes A s.heap h H locs → b_Mo_isAlways_12 K N o v1 v2 v3 w0 h = some res → W p l e rm_Mo_isAlways s m [.ref o, .int a1, .int a2, .int a3].toArray below meth c H locs 0 0 (MQ below (fh_Q D classes h0 s.heap.size (some (.int res.1)) res.2) [.ref o, .int a1, .int a2, .int a3].toArray s 0 0 A) (F0 m 12 ls [.int w0]) := by
    intro v1 v2 v3 w0 h H locs ls hl hI hf
    unfold b_Mo_isAlways_12 at hf
    refine lv_istore (lv' := [(4, .int w0), (0, va_rf (some o)), (1, .int v1), (2, .int v2), (3, .int v3)]) hx hb d_Mo_isAlways_12 hl (by decide) rfl (fun ls hl => ?_)
    refine lv_iconst (v := 0) hx hb d_Mo_isAlways_14 (by decide) ?_
    refine lv_istore (lv' := [(5, .int 0), (4, .int w0), (0, va_rf (some o)), (1, .int v1), (2, .int v2), (3, .int v3)]) hx hb d_Mo_isAlways_15 hl (by decide) rfl (fun ls hl => ?_)
    exact L17 N v1 v2 v3 w0 0 h _ _ _ (lv_sub hl [2, 3, 4, 5, 1, 0] rfl) hI hf
  unfold f_Mo_isAlways at hf
  refine fh_aload_n S d_Mo_isAlways_0 rfl (lv_at hl 0 rfl) ?_
  obtain ⟨o1, e_o1, hf⟩ := fh_b hf
  obtain ⟨r2, e_r2, hf⟩ := fh_b hf
  refine fh_callV (As := []) (rest := []) S fT_good hE hI e_o1 rfl (c_Mo_standing e_r2) fy_Mo_standing fst_Mo_standing k_176 ⟨rfl, rfl⟩ ⟨Nat.le_of_ble_eq_true rfl, Nat.le_of_ble_eq_true rfl⟩ ⟨Nat.zero_le _, Nat.zero_le _⟩ rfl hl.1 rfl (Nat.le_of_ble_eq_true rfl) d_Mo_isAlways_1 (fun H locs hI => ?_)
  refine lv_if_le (tgt := 11) hx hb d_Mo_isAlways_4 (by decide) (fun c_4 => ?_) (fun c_4 => ?_)
  · replace hf := fh_t c_4 hf
    refine lv_iconst (v := 0) hx hb d_Mo_isAlways_11 (by decide) ?_
    exact B12 a1 a2 a3 0 r2.2 _ _ _ (lv_sub hl [0, 1, 2, 3] rfl) hI hf
  · replace hf := fh_f c_4 hf
    refine lv_iconst (v := 1) hx hb d_Mo_isAlways_7 (by decide) ?_
    refine lv_goto (tgt := 12) hx hb d_Mo_isAlways_8 (by decide) ?_
    exact B12 a1 a2 a3 1 r2.2 _ _ _ (lv_sub hl [0, 1, 2, 3] rfl) hI hf
