theorem d_Mo_holds_0 : decode c0_Mo_holds 0 = .ok (.iload_n 1, 1) := by decide +kernel
theorem d_Mo_holds_1 : decode c0_Mo_holds 1 = .ok (.iconst 0, 1) := by decide +kernel
theorem d_Mo_holds_2 : decode c0_Mo_holds 2 = .ok (.bipush 8, 2) := by decide +kernel
theorem d_Mo_holds_4 : decode c0_Mo_holds 4 = .ok (.invokestatic 145, 3) := by decide +kernel
theorem d_Mo_holds_7 : decode c0_Mo_holds 7 = .ok (.ifCond .ne 6, 3) := by decide +kernel
theorem d_Mo_holds_10 : decode c0_Mo_holds 10 = .ok (.bipush (-2), 2) := by decide +kernel
theorem d_Mo_holds_12 : decode c0_Mo_holds 12 = .ok (.ireturn, 1) := by decide +kernel
theorem d_Mo_holds_13 : decode c0_Mo_holds 13 = .ok (.aload_n 0, 1) := by decide +kernel
theorem d_Mo_holds_14 : decode c0_Mo_holds 14 = .ok (.iload_n 2, 1) := by decide +kernel
theorem d_Mo_holds_15 : decode c0_Mo_holds 15 = .ok (.iload_n 3, 1) := by decide +kernel
theorem d_Mo_holds_16 : decode c0_Mo_holds 16 = .ok (.iload 4, 2) := by decide +kernel
theorem d_Mo_holds_18 : decode c0_Mo_holds 18 = .ok (.iload 5, 2) := by decide +kernel
theorem d_Mo_holds_20 : decode c0_Mo_holds 20 = .ok (.iload 6, 2) := by decide +kernel
theorem d_Mo_holds_22 : decode c0_Mo_holds 22 = .ok (.iload 7, 2) := by decide +kernel
theorem d_Mo_holds_24 : decode c0_Mo_holds 24 = .ok (.invokevirtual 198, 3) := by decide +kernel
theorem d_Mo_holds_27 : decode c0_Mo_holds 27 = .ok (.iconst 1, 1) := by decide +kernel
theorem d_Mo_holds_28 : decode c0_Mo_holds 28 = .ok (.istore 8, 2) := by decide +kernel
theorem d_Mo_holds_30 : decode c0_Mo_holds 30 = .ok (.iconst 0, 1) := by decide +kernel
theorem d_Mo_holds_31 : decode c0_Mo_holds 31 = .ok (.istore 9, 2) := by decide +kernel
theorem d_Mo_holds_33 : decode c0_Mo_holds 33 = .ok (.iload 9, 2) := by decide +kernel
theorem d_Mo_holds_35 : decode c0_Mo_holds 35 = .ok (.iload_n 1, 1) := by decide +kernel
theorem d_Mo_holds_36 : decode c0_Mo_holds 36 = .ok (.invokestatic 201, 3) := by decide +kernel
theorem d_Mo_holds_39 : decode c0_Mo_holds 39 = .ok (.if_icmp .ge 35, 3) := by decide +kernel
theorem d_Mo_holds_42 : decode c0_Mo_holds 42 = .ok (.iload 8, 2) := by decide +kernel
theorem d_Mo_holds_44 : decode c0_Mo_holds 44 = .ok (.ifCond .eq 21, 3) := by decide +kernel
theorem d_Mo_holds_47 : decode c0_Mo_holds 47 = .ok (.aload_n 0, 1) := by decide +kernel
theorem d_Mo_holds_48 : decode c0_Mo_holds 48 = .ok (.aload_n 0, 1) := by decide +kernel
theorem d_Mo_holds_49 : decode c0_Mo_holds 49 = .ok (.getfield 33, 3) := by decide +kernel
theorem d_Mo_holds_52 : decode c0_Mo_holds 52 = .ok (.iload 9, 2) := by decide +kernel
theorem d_Mo_holds_54 : decode c0_Mo_holds 54 = .ok (.iaload, 1) := by decide +kernel
theorem d_Mo_holds_55 : decode c0_Mo_holds 55 = .ok (.invokevirtual 157, 3) := by decide +kernel
theorem d_Mo_holds_58 : decode c0_Mo_holds 58 = .ok (.ifCond .eq 7, 3) := by decide +kernel
theorem d_Mo_holds_61 : decode c0_Mo_holds 61 = .ok (.iconst 1, 1) := by decide +kernel
theorem d_Mo_holds_62 : decode c0_Mo_holds 62 = .ok (.goto 4, 3) := by decide +kernel
theorem d_Mo_holds_65 : decode c0_Mo_holds 65 = .ok (.iconst 0, 1) := by decide +kernel
theorem d_Mo_holds_66 : decode c0_Mo_holds 66 = .ok (.istore 8, 2) := by decide +kernel
theorem d_Mo_holds_68 : decode c0_Mo_holds 68 = .ok (.iinc 9 1, 3) := by decide +kernel
theorem d_Mo_holds_71 : decode c0_Mo_holds 71 = .ok (.goto (-38), 3) := by decide +kernel
theorem d_Mo_holds_74 : decode c0_Mo_holds 74 = .ok (.iload 8, 2) := by decide +kernel
theorem d_Mo_holds_76 : decode c0_Mo_holds 76 = .ok (.ifCond .eq 11, 3) := by decide +kernel
theorem d_Mo_holds_79 : decode c0_Mo_holds 79 = .ok (.aload_n 0, 1) := by decide +kernel
theorem d_Mo_holds_80 : decode c0_Mo_holds 80 = .ok (.iload_n 1, 1) := by decide +kernel
theorem d_Mo_holds_81 : decode c0_Mo_holds 81 = .ok (.invokevirtual 204, 3) := by decide +kernel
theorem d_Mo_holds_84 : decode c0_Mo_holds 84 = .ok (.ifCond .ne 6, 3) := by decide +kernel
theorem d_Mo_holds_87 : decode c0_Mo_holds 87 = .ok (.bipush (-2), 2) := by decide +kernel
theorem d_Mo_holds_89 : decode c0_Mo_holds 89 = .ok (.ireturn, 1) := by decide +kernel
theorem d_Mo_holds_90 : decode c0_Mo_holds 90 = .ok (.aload_n 0, 1) := by decide +kernel
theorem d_Mo_holds_91 : decode c0_Mo_holds 91 = .ok (.iload_n 1, 1) := by decide +kernel
theorem d_Mo_holds_92 : decode c0_Mo_holds 92 = .ok (.invokevirtual 207, 3) := by decide +kernel
theorem d_Mo_holds_95 : decode c0_Mo_holds 95 = .ok (.ifCond .eq 7, 3) := by decide +kernel
theorem d_Mo_holds_98 : decode c0_Mo_holds 98 = .ok (.iconst 1, 1) := by decide +kernel
theorem d_Mo_holds_99 : decode c0_Mo_holds 99 = .ok (.goto 4, 3) := by decide +kernel
theorem d_Mo_holds_102 : decode c0_Mo_holds 102 = .ok (.iconst 0, 1) := by decide +kernel
theorem d_Mo_holds_103 : decode c0_Mo_holds 103 = .ok (.ireturn, 1) := by decide +kernel
def b_Mo_holds_66 (K : Nat → ClassId) (N : Nat) (k33 : Int32 → Int32 → Int32 → fh_H → Option (Int32 × fh_H)) (o : Nat) (v1 : Int32) (v9 : Int32) (w0 : Int32) (h : fh_H) : Option (Int32 × fh_H) :=
  (some (v9 + 1)).bind fun x1 => k33 v1 w0 x1 h
def b_Mo_holds_65 (K : Nat → ClassId) (N : Nat) (k33 : Int32 → Int32 → Int32 → fh_H → Option (Int32 × fh_H)) (o : Nat) (v1 : Int32) (v9 : Int32) (h : fh_H) : Option (Int32 × fh_H) :=
  b_Mo_holds_66 K N k33 o v1 v9 0 h
def b_Mo_holds_33 (K : Nat → ClassId) (N : Nat) (k33 : Int32 → Int32 → Int32 → fh_H → Option (Int32 × fh_H)) (o : Nat) (v1 : Int32) (v8 : Int32) (v9 : Int32) (h : fh_H) : Option (Int32 × fh_H) :=
  (f_Mo_size K N v1 h).bind fun r1 => if r1.1 ≤ v9 then (if v8 = 0 then (some ((-2), r1.2)) else ((fg_o r1.2 (some o) 6).bind fun o2 => (f_Mo_isOrdered K N o2 v1 r1.2).bind fun r3 => if r3.1 = 0 then (some ((-2), r3.2)) else ((fg_o r3.2 (some o) 6).bind fun o4 => (f_Mo_isHeld K N o4 v1 r3.2).bind fun r5 => if r5.1 = 0 then (some (0, r5.2)) else (some (1, r5.2))))) else (if v8 = 0 then (b_Mo_holds_65 K N k33 o v1 v9 r1.2) else ((fg_a r1.2 (some o) 6 13).bind fun x6 => (fa_i (K 0) r1.2 x6 v9).bind fun x7 => (fg_o r1.2 (some o) 6).bind fun o8 => (f_Mo_isPoint K N o8 x7 r1.2).bind fun r9 => if r9.1 = 0 then (b_Mo_holds_65 K N k33 o v1 v9 r9.2) else (b_Mo_holds_66 K N k33 o v1 v9 1 r9.2)))
def l_Mo_holds_33 (K : Nat → ClassId) (N : Nat) (o : Nat) : Nat → Int32 → Int32 → Int32 → fh_H → Option (Int32 × fh_H)
  | 0, _, _, _, _ => none
  | n + 1, v1, v8, v9, h => b_Mo_holds_33 K N (l_Mo_holds_33 K N o n) o v1 v8 v9 h
def f_Mo_holds (K : Nat → ClassId) (N : Nat) (o : Nat) (a1 : Int32) (a2 : Int32) (a3 : Int32) (a4 : Int32) (a5 : Int32) (a6 : Int32) (a7 : Int32) (h0 : fh_H) : Option (Int32 × fh_H) :=
  (f_Mo_isIn K N a1 0 8 h0).bind fun r1 => if r1.1 = 0 then (some ((-2), r1.2)) else ((fg_o r1.2 (some o) 6).bind fun o2 => (f_Mo_setRow K N o2 a2 a3 a4 a5 a6 a7 r1.2).bind fun r3 => l_Mo_holds_33 K N o N a1 1 0 r3)
set_option maxHeartbeats 4000000 in
set_option maxRecDepth 100000 in
theorem c_Mo_holds {l : Launch} {D : va_G} {K : Nat → ClassId} {t : Nat → Nat} {N : Nat} {o : Nat} {a1 : Int32} {a2 : Int32} {a3 : Int32} {a4 : Int32} {a5 : Int32} {a6 : Int32} {a7 : Int32} {h0 : fh_H} {res : Int32 × fh_H} (hf : f_Mo_holds K N o a1 a2 a3 a4 a5 a6 a7 h0 = some res) : fC l D K t y_Mo_holds c0_Mo_holds 10 (some .int) rm_Mo_holds [.ref o, .int a1, .int a2, .int a3, .int a4, .int a5, .int a6, .int a7] h0 (some (.int res.1)) res.2 := by
  refine fh_body (by decide) (Nat.le_of_ble_eq_true rfl) ?_
  intro p e s m below meth c A ls S hr hk hnm hE hAe hI hl
  obtain ⟨hx, hb, hml, hown, hts⟩ := id S
  have hl : lv_has ls 10 [(0, va_rf (some o)), (1, .int a1), (2, .int a2), (3, .int a3), (4, .int a4), (5, .int a5), (6, .int a6), (7, .int a7)] := hl
  have L33 : ∀ (n33 : Nat) (v1 : Int32) (v8 : Int32) (v9 : Int32) (h : fh_H) (H : Heap) (locs : List Loc) (ls : Array Slot), lv_has ls 10 [(0, va_rf (some o)), (1, .int v1), (8, .int v8), (9, .int v9)] → fh_I D classes A s.heap h H locs → l_Mo_holds_33 K N o n33 v1 v8 v9 h = some res → W p l e rm_Mo_holds s m [.ref o, .int a1, .int a2, .int a3, .int a4, .int a5, .int a6, .int a7].toArray below meth c H locs 0 0 (MQ below (fh_Q D classes h0 s.heap.size (some (.int res.1)) res.2) [.ref o, .int a1, .int a2, .int a3, .int a4, .int a5, .int a6, .int a7].toArray s 0 0 A) (F0 m 33 ls []) := by
    intro n33
    induction n33 with
    | zero =>
      intro v1 v8 v9 h H locs ls hl hI hf
      exact fh_no hf
    | succ n33 ih33 =>
      have B66 : ∀ (v1 : Int32) (v9 : Int32) (w0 : Int32) (h : fh_H) (H : Heap) (locs : List Loc) (ls : Array Slot), lv_has ls 10 [(0, va_rf (some o)), (1, .int v1), (9, .int v9)] → fh_I D classes A s.heap h H locs → b_Mo_holds_66 K N (l_Mo_holds_33 K N o n33) o v1 v9 w0 h = some res → W p l e rm_Mo_holds s m [.ref o, .int a1, .int a2, .int a3, .int a4, .int a5, .int a6, .int a7].toArray below meth c H locs 0 0 (MQ below (fh_Q D classes h0 s.heap.size (some (.int res.1)) res.2) [.ref o, .int a1, .int a2, .int a3, .int a4, .int a5, .int a6, .int a7].toArray s 0 0 A) (F0 m 66 ls [.int w0]) := by
        intro v1 v9 w0 h H locs ls hl hI hf
        unfold b_Mo_holds_66 at hf
        refine lv_istore (lv' := [(8, .int w0), (0, va_rf (some o)), (1, .int v1), (9, .int v9)]) hx hb d_Mo_holds_66 hl (by decide) rfl (fun ls hl => ?_)
        obtain ⟨x1, e_x1, hf⟩ := fh_b hf
        refine lv_iinc (v := x1) (lv' := [(9, .int x1), (8, .int w0), (0, va_rf (some o)), (1, .int v1)]) hx hb d_Mo_holds_68 hl (k := 3) rfl (by rw [fh_qe e_x1]; rfl) (by decide) rfl (fun ls hl => ?_)
        refine lv_goto (tgt := 33) hx hb d_Mo_holds_71 (by decide) ?_
        exact ih33 v1 w0 x1 h _ _ _ (lv_sub hl [2, 3, 1, 0] rfl) hI hf
      have B65 : ∀ (v1 : Int32) (v9 : Int32) (h : fh_H) (H : Heap) (locs : List Loc) (ls : Array Slot), lv_has ls 10 [(0, va_rf (some o)), (1, .int v1), (9, .int v9)] → fh_I D classes A s.heap h H locs → b_Mo_holds_65 K N (l_Mo_holds_33 K N o n33) o v1 v9 h = some res → W p l e rm_Mo_holds s m [.ref o, .int a1, .int a2, .int a3, .int a4, .int a5, .int a6, .int a7].toArray below meth c H locs 0 0 (MQ below (fh_Q D classes h0 s.heap.size (some (.int res.1)) res.2) [.ref o, .int a1, .int a2, .int a3, .int a4, .int a5, .int a6, .int a7].toArray s 0 0 A) (F0 m 65 ls []) := by
        intro v1 v9 h H locs ls hl hI hf
        unfold b_Mo_holds_65 at hf
        refine lv_iconst (v := 0) hx hb d_Mo_holds_65 (by decide) ?_
        exact B66 v1 v9 0 h _ _ _ (lv_sub hl [0, 1, 2] rfl) hI hf
      intro v1 v8 v9 h H locs ls hl hI hf
      have hf : b_Mo_holds_33 K N (l_Mo_holds_33 K N o n33) o v1 v8 v9 h = some res := hf
      unfold b_Mo_holds_33 at hf
      refine lv_iload hx hb d_Mo_holds_33 (lv_at hl 3 rfl) ?_
      refine lv_iload_n hx hb d_Mo_holds_35 rfl (lv_at hl 1 rfl) ?_
      obtain ⟨r1, e_r1, hf⟩ := fh_b hf
      refine fh_callS (As := [.int v1]) (rest := [.int v9]) S fT_good hE hI (c_Mo_size e_r1) fy_Mo_size fst_Mo_size k_192 ⟨rfl, rfl⟩ ⟨Nat.le_of_ble_eq_true rfl, Nat.le_of_ble_eq_true rfl⟩ ⟨Nat.zero_le _, Nat.zero_le _⟩ rfl hl.1 rfl (Nat.le_of_ble_eq_true rfl) d_Mo_holds_36 (fun H locs hI => ?_)
      refine lv_icmp_ge (tgt := 74) hx hb d_Mo_holds_39 (by decide) (fun c_39 => ?_) (fun c_39 => ?_)
      · replace hf := fh_t c_39 hf
        refine lv_iload hx hb d_Mo_holds_74 (lv_at hl 2 rfl) ?_
        refine lv_if_eq (tgt := 87) hx hb d_Mo_holds_76 (by decide) (fun c_76 => ?_) (fun c_76 => ?_)
        · replace hf := fh_t c_76 hf
          refine lv_bipush (v := (-2)) hx hb d_Mo_holds_87 (by decide) ?_
          obtain rfl := Option.some.inj hf
          exact fh_iret S hr hk rfl hAe hI d_Mo_holds_89
        · replace hf := fh_f c_76 hf
          refine fh_aload_n S d_Mo_holds_79 rfl (lv_at hl 0 rfl) ?_
          refine lv_iload_n hx hb d_Mo_holds_80 rfl (lv_at hl 1 rfl) ?_
          obtain ⟨o2, e_o2, hf⟩ := fh_b hf
          obtain ⟨r3, e_r3, hf⟩ := fh_b hf
          refine fh_callV (As := [.int v1]) (rest := []) S fT_good hE hI e_o2 rfl (c_Mo_isOrdered e_r3) fy_Mo_isOrdered fst_Mo_isOrdered k_193 ⟨rfl, rfl⟩ ⟨Nat.le_of_ble_eq_true rfl, Nat.le_of_ble_eq_true rfl⟩ ⟨Nat.zero_le _, Nat.zero_le _⟩ rfl hl.1 rfl (Nat.le_of_ble_eq_true rfl) d_Mo_holds_81 (fun H locs hI => ?_)
          refine lv_if_ne (tgt := 90) hx hb d_Mo_holds_84 (by decide) (fun c_84 => ?_) (fun c_84 => ?_)
          · replace hf := fh_f c_84 hf
            refine fh_aload_n S d_Mo_holds_90 rfl (lv_at hl 0 rfl) ?_
            refine lv_iload_n hx hb d_Mo_holds_91 rfl (lv_at hl 1 rfl) ?_
            obtain ⟨o4, e_o4, hf⟩ := fh_b hf
            obtain ⟨r5, e_r5, hf⟩ := fh_b hf
            refine fh_callV (As := [.int v1]) (rest := []) S fT_good hE hI e_o4 rfl (c_Mo_isHeld e_r5) fy_Mo_isHeld fst_Mo_isHeld k_194 ⟨rfl, rfl⟩ ⟨Nat.le_of_ble_eq_true rfl, Nat.le_of_ble_eq_true rfl⟩ ⟨Nat.zero_le _, Nat.zero_le _⟩ rfl hl.1 rfl (Nat.le_of_ble_eq_true rfl) d_Mo_holds_92 (fun H locs hI => ?_)
            refine lv_if_eq (tgt := 102) hx hb d_Mo_holds_95 (by decide) (fun c_95 => ?_) (fun c_95 => ?_)
            · replace hf := fh_t c_95 hf
              refine lv_iconst (v := 0) hx hb d_Mo_holds_102 (by decide) ?_
              obtain rfl := Option.some.inj hf
              exact fh_iret S hr hk rfl hAe hI d_Mo_holds_103
            · replace hf := fh_f c_95 hf
              refine lv_iconst (v := 1) hx hb d_Mo_holds_98 (by decide) ?_
              refine lv_goto (tgt := 103) hx hb d_Mo_holds_99 (by decide) ?_
              obtain rfl := Option.some.inj hf
              exact fh_iret S hr hk rfl hAe hI d_Mo_holds_103
          · replace hf := fh_t c_84 hf
            refine lv_bipush (v := (-2)) hx hb d_Mo_holds_87 (by decide) ?_
            obtain rfl := Option.some.inj hf
            exact fh_iret S hr hk rfl hAe hI d_Mo_holds_89
      · replace hf := fh_f c_39 hf
        refine lv_iload hx hb d_Mo_holds_42 (lv_at hl 2 rfl) ?_
        refine lv_if_eq (tgt := 65) hx hb d_Mo_holds_44 (by decide) (fun c_44 => ?_) (fun c_44 => ?_)
        · replace hf := fh_t c_44 hf
          exact B65 v1 v9 r1.2 _ _ _ (lv_sub hl [0, 1, 3] rfl) hI hf
        · replace hf := fh_f c_44 hf
          refine fh_aload_n S d_Mo_holds_47 rfl (lv_at hl 0 rfl) ?_
          refine fh_aload_n S d_Mo_holds_48 rfl (lv_at hl 0 rfl) ?_
          obtain ⟨x6, e_x6, hf⟩ := fh_b hf
          refine fh_geta S hE.1 hI e_x6 (hc := rfl) (hin := in_6) (by decide) (hts _ k_178) d_Mo_holds_49 ?_
          refine lv_iload hx hb d_Mo_holds_52 (lv_at hl 3 rfl) ?_
          obtain ⟨x7, e_x7, hf⟩ := fh_b hf
          refine fh_iald S hE.1 hI 0 rfl e_x7 d_Mo_holds_54 ?_
          obtain ⟨o8, e_o8, hf⟩ := fh_b hf
          obtain ⟨r9, e_r9, hf⟩ := fh_b hf
          refine fh_callV (As := [.int x7]) (rest := []) S fT_good hE hI e_o8 rfl (c_Mo_isPoint e_r9) fy_Mo_isPoint fst_Mo_isPoint k_175 ⟨rfl, rfl⟩ ⟨Nat.le_of_ble_eq_true rfl, Nat.le_of_ble_eq_true rfl⟩ ⟨Nat.zero_le _, Nat.zero_le _⟩ rfl hl.1 rfl (Nat.le_of_ble_eq_true rfl) d_Mo_holds_55 (fun H locs hI => ?_)
          refine lv_if_eq (tgt := 65) hx hb d_Mo_holds_58 (by decide) (fun c_58 => ?_) (fun c_58 => ?_)
          · replace hf := fh_t c_58 hf
            exact B65 v1 v9 r9.2 _ _ _ (lv_sub hl [0, 1, 3] rfl) hI hf
          · replace hf := fh_f c_58 hf
            refine lv_iconst (v := 1) hx hb d_Mo_holds_61 (by decide) ?_
            refine lv_goto (tgt := 66) hx hb d_Mo_holds_62 (by decide) ?_
            exact B66 v1 v9 1 r9.2 _ _ _ (lv_sub hl [0, 1, 3] rfl) hI hf
  unfold f_Mo_holds at hf
  refine lv_iload_n hx hb d_Mo_holds_0 rfl (lv_at hl 1 rfl) ?_
  refine lv_iconst (v := 0) hx hb d_Mo_holds_1 (by decide) ?_
  refine lv_bipush (v := 8) hx hb d_Mo_holds_2 (by decide) ?_
  obtain ⟨r1, e_r1, hf⟩ := fh_b hf
  refine fh_callS (As := [.int a1, .int 0, .int 8]) (rest := []) S fT_good hE hI (c_Mo_isIn e_r1) fy_Mo_isIn fst_Mo_isIn k_172 ⟨rfl, rfl⟩ ⟨Nat.le_of_ble_eq_true rfl, Nat.le_of_ble_eq_true rfl⟩ ⟨Nat.zero_le _, Nat.zero_le _⟩ rfl hl.1 rfl (Nat.le_of_ble_eq_true rfl) d_Mo_holds_4 (fun H locs hI => ?_)
  refine lv_if_ne (tgt := 13) hx hb d_Mo_holds_7 (by decide) (fun c_7 => ?_) (fun c_7 => ?_)
  · replace hf := fh_f c_7 hf
    refine fh_aload_n S d_Mo_holds_13 rfl (lv_at hl 0 rfl) ?_
    refine lv_iload_n hx hb d_Mo_holds_14 rfl (lv_at hl 2 rfl) ?_
    refine lv_iload_n hx hb d_Mo_holds_15 rfl (lv_at hl 3 rfl) ?_
    refine lv_iload hx hb d_Mo_holds_16 (lv_at hl 4 rfl) ?_
    refine lv_iload hx hb d_Mo_holds_18 (lv_at hl 5 rfl) ?_
    refine lv_iload hx hb d_Mo_holds_20 (lv_at hl 6 rfl) ?_
    refine lv_iload hx hb d_Mo_holds_22 (lv_at hl 7 rfl) ?_
    obtain ⟨o2, e_o2, hf⟩ := fh_b hf
    obtain ⟨r3, e_r3, hf⟩ := fh_b hf
    refine fh_callV (As := [.int a2, .int a3, .int a4, .int a5, .int a6, .int a7]) (rest := []) S fT_good hE hI e_o2 rfl (c_Mo_setRow e_r3) fy_Mo_setRow fst_Mo_setRow k_184 ⟨rfl, rfl⟩ ⟨Nat.le_of_ble_eq_true rfl, Nat.le_of_ble_eq_true rfl⟩ ⟨Nat.zero_le _, Nat.zero_le _⟩ rfl hl.1 rfl (Nat.le_of_ble_eq_true rfl) d_Mo_holds_24 (fun H locs hI => ?_)
    refine lv_iconst (v := 1) hx hb d_Mo_holds_27 (by decide) ?_
    refine lv_istore (lv' := [(8, .int 1), (0, va_rf (some o)), (1, .int a1), (2, .int a2), (3, .int a3), (4, .int a4), (5, .int a5), (6, .int a6), (7, .int a7)]) hx hb d_Mo_holds_28 hl (by decide) rfl (fun ls hl => ?_)
    refine lv_iconst (v := 0) hx hb d_Mo_holds_30 (by decide) ?_
    refine lv_istore (lv' := [(9, .int 0), (8, .int 1), (0, va_rf (some o)), (1, .int a1), (2, .int a2), (3, .int a3), (4, .int a4), (5, .int a5), (6, .int a6), (7, .int a7)]) hx hb d_Mo_holds_31 hl (by decide) rfl (fun ls hl => ?_)
    exact L33 N a1 1 0 r3 _ _ _ (lv_sub hl [2, 3, 1, 0] rfl) hI hf
  · replace hf := fh_t c_7 hf
    refine lv_bipush (v := (-2)) hx hb d_Mo_holds_10 (by decide) ?_
    obtain rfl := Option.some.inj hf
    exact fh_iret S hr hk rfl hAe hI d_Mo_holds_12
theorem d_Mo_isEmpty_0 : decode c0_Mo_isEmpty 0 = .ok (.iconst 1, 1) := by decide +kernel
theorem d_Mo_isEmpty_1 : decode c0_Mo_isEmpty 1 = .ok (.istore 4, 2) := by decide +kernel
theorem d_Mo_isEmpty_3 : decode c0_Mo_isEmpty 3 = .ok (.iconst 0, 1) := by decide +kernel
theorem d_Mo_isEmpty_4 : decode c0_Mo_isEmpty 4 = .ok (.istore 5, 2) := by decide +kernel
theorem d_Mo_isEmpty_6 : decode c0_Mo_isEmpty 6 = .ok (.iload 5, 2) := by decide +kernel
theorem d_Mo_isEmpty_8 : decode c0_Mo_isEmpty 8 = .ok (.aload_n 0, 1) := by decide +kernel
theorem d_Mo_isEmpty_9 : decode c0_Mo_isEmpty 9 = .ok (.getfield 20, 3) := by decide +kernel
theorem d_Mo_isEmpty_12 : decode c0_Mo_isEmpty 12 = .ok (.if_icmp .ge 64, 3) := by decide +kernel
theorem d_Mo_isEmpty_15 : decode c0_Mo_isEmpty 15 = .ok (.aload_n 0, 1) := by decide +kernel
theorem d_Mo_isEmpty_16 : decode c0_Mo_isEmpty 16 = .ok (.iload 5, 2) := by decide +kernel
theorem d_Mo_isEmpty_18 : decode c0_Mo_isEmpty 18 = .ok (.putfield 65, 3) := by decide +kernel
theorem d_Mo_isEmpty_21 : decode c0_Mo_isEmpty 21 = .ok (.iload 4, 2) := by decide +kernel
theorem d_Mo_isEmpty_23 : decode c0_Mo_isEmpty 23 = .ok (.ifCond .eq 44, 3) := by decide +kernel
theorem d_Mo_isEmpty_26 : decode c0_Mo_isEmpty 26 = .ok (.aload_n 0, 1) := by decide +kernel
theorem d_Mo_isEmpty_27 : decode c0_Mo_isEmpty 27 = .ok (.getfield 30, 3) := by decide +kernel
theorem d_Mo_isEmpty_30 : decode c0_Mo_isEmpty 30 = .ok (.iload 5, 2) := by decide +kernel
theorem d_Mo_isEmpty_32 : decode c0_Mo_isEmpty 32 = .ok (.iaload, 1) := by decide +kernel
theorem d_Mo_isEmpty_33 : decode c0_Mo_isEmpty 33 = .ok (.iconst (-1), 1) := by decide +kernel
theorem d_Mo_isEmpty_34 : decode c0_Mo_isEmpty 34 = .ok (.if_icmp .ne 29, 3) := by decide +kernel
theorem d_Mo_isEmpty_37 : decode c0_Mo_isEmpty 37 = .ok (.iload_n 3, 1) := by decide +kernel
theorem d_Mo_isEmpty_38 : decode c0_Mo_isEmpty 38 = .ok (.ifCond .ge 12, 3) := by decide +kernel
theorem d_Mo_isEmpty_41 : decode c0_Mo_isEmpty 41 = .ok (.aload_n 0, 1) := by decide +kernel
theorem d_Mo_isEmpty_42 : decode c0_Mo_isEmpty 42 = .ok (.iload_n 1, 1) := by decide +kernel
theorem d_Mo_isEmpty_43 : decode c0_Mo_isEmpty 43 = .ok (.iload_n 2, 1) := by decide +kernel
theorem d_Mo_isEmpty_44 : decode c0_Mo_isEmpty 44 = .ok (.invokevirtual 176, 3) := by decide +kernel
theorem d_Mo_isEmpty_47 : decode c0_Mo_isEmpty 47 = .ok (.goto 11, 3) := by decide +kernel
theorem d_Mo_isEmpty_50 : decode c0_Mo_isEmpty 50 = .ok (.aload_n 0, 1) := by decide +kernel
theorem d_Mo_isEmpty_51 : decode c0_Mo_isEmpty 51 = .ok (.iload_n 1, 1) := by decide +kernel
theorem d_Mo_isEmpty_52 : decode c0_Mo_isEmpty 52 = .ok (.iload_n 2, 1) := by decide +kernel
theorem d_Mo_isEmpty_53 : decode c0_Mo_isEmpty 53 = .ok (.iload_n 1, 1) := by decide +kernel
theorem d_Mo_isEmpty_54 : decode c0_Mo_isEmpty 54 = .ok (.iload_n 3, 1) := by decide +kernel
theorem d_Mo_isEmpty_55 : decode c0_Mo_isEmpty 55 = .ok (.invokevirtual 98, 3) := by decide +kernel
theorem d_Mo_isEmpty_58 : decode c0_Mo_isEmpty 58 = .ok (.lconst 0, 1) := by decide +kernel
theorem d_Mo_isEmpty_59 : decode c0_Mo_isEmpty 59 = .ok (.lcmp, 1) := by decide +kernel
theorem d_Mo_isEmpty_60 : decode c0_Mo_isEmpty 60 = .ok (.ifCond .ne 7, 3) := by decide +kernel
theorem d_Mo_isEmpty_63 : decode c0_Mo_isEmpty 63 = .ok (.iconst 1, 1) := by decide +kernel
theorem d_Mo_isEmpty_64 : decode c0_Mo_isEmpty 64 = .ok (.goto 4, 3) := by decide +kernel
theorem d_Mo_isEmpty_67 : decode c0_Mo_isEmpty 67 = .ok (.iconst 0, 1) := by decide +kernel
theorem d_Mo_isEmpty_68 : decode c0_Mo_isEmpty 68 = .ok (.istore 4, 2) := by decide +kernel
theorem d_Mo_isEmpty_70 : decode c0_Mo_isEmpty 70 = .ok (.iinc 5 1, 3) := by decide +kernel
theorem d_Mo_isEmpty_73 : decode c0_Mo_isEmpty 73 = .ok (.goto (-67), 3) := by decide +kernel
theorem d_Mo_isEmpty_76 : decode c0_Mo_isEmpty 76 = .ok (.iload 4, 2) := by decide +kernel
theorem d_Mo_isEmpty_78 : decode c0_Mo_isEmpty 78 = .ok (.ireturn, 1) := by decide +kernel
def b_Mo_isEmpty_68 (K : Nat → ClassId) (N : Nat) (k6 : Int32 → Int32 → Int32 → Int32 → Int32 → fh_H → Option (Int32 × fh_H)) (o : Nat) (v1 : Int32) (v2 : Int32) (v3 : Int32) (v5 : Int32) (w0 : Int32) (h : fh_H) : Option (Int32 × fh_H) :=
  (some (v5 + 1)).bind fun x1 => k6 v1 v2 v3 w0 x1 h
def b_Mo_isEmpty_63 (K : Nat → ClassId) (N : Nat) (k6 : Int32 → Int32 → Int32 → Int32 → Int32 → fh_H → Option (Int32 × fh_H)) (o : Nat) (v1 : Int32) (v2 : Int32) (v3 : Int32) (v5 : Int32) (h : fh_H) : Option (Int32 × fh_H) :=
  b_Mo_isEmpty_68 K N k6 o v1 v2 v3 v5 1 h
def b_Mo_isEmpty_67 (K : Nat → ClassId) (N : Nat) (k6 : Int32 → Int32 → Int32 → Int32 → Int32 → fh_H → Option (Int32 × fh_H)) (o : Nat) (v1 : Int32) (v2 : Int32) (v3 : Int32) (v5 : Int32) (h : fh_H) : Option (Int32 × fh_H) :=
  b_Mo_isEmpty_68 K N k6 o v1 v2 v3 v5 0 h
def b_Mo_isEmpty_58 (K : Nat → ClassId) (N : Nat) (k6 : Int32 → Int32 → Int32 → Int32 → Int32 → fh_H → Option (Int32 × fh_H)) (o : Nat) (v1 : Int32) (v2 : Int32) (v3 : Int32) (v5 : Int32) (w0 : Int64) (h : fh_H) : Option (Int32 × fh_H) :=
  if (lg_cmp w0 0) = 0 then (b_Mo_isEmpty_63 K N k6 o v1 v2 v3 v5 h) else (b_Mo_isEmpty_67 K N k6 o v1 v2 v3 v5 h)
def b_Mo_isEmpty_6 (K : Nat → ClassId) (N : Nat) (k6 : Int32 → Int32 → Int32 → Int32 → Int32 → fh_H → Option (Int32 × fh_H)) (o : Nat) (v1 : Int32) (v2 : Int32) (v3 : Int32) (v4 : Int32) (v5 : Int32) (h : fh_H) : Option (Int32 × fh_H) :=
  (fg_i h (some o) 6 4).bind fun x1 => if x1 ≤ v5 then (fz v4 h) else ((fp_v h (some o) 6 8 (.int v5)).bind fun h2 => if v4 = 0 then (b_Mo_isEmpty_67 K N k6 o v1 v2 v3 v5 h2) else ((fg_a h2 (some o) 6 7).bind fun x3 => (fa_i (K 0) h2 x3 v5).bind fun x4 => if x4 = (-1) then (if 0 ≤ v3 then ((fg_o h2 (some o) 6).bind fun o5 => (f_Mo_cross K N o5 v1 v2 v1 v3 h2).bind fun r6 => b_Mo_isEmpty_58 K N k6 o v1 v2 v3 v5 r6.1 r6.2) else ((fg_o h2 (some o) 6).bind fun o7 => (f_Mo_length K N o7 v1 v2 h2).bind fun r8 => b_Mo_isEmpty_58 K N k6 o v1 v2 v3 v5 r8.1 r8.2)) else (b_Mo_isEmpty_63 K N k6 o v1 v2 v3 v5 h2)))
def l_Mo_isEmpty_6 (K : Nat → ClassId) (N : Nat) (o : Nat) : Nat → Int32 → Int32 → Int32 → Int32 → Int32 → fh_H → Option (Int32 × fh_H)
  | 0, _, _, _, _, _, _ => none
  | n + 1, v1, v2, v3, v4, v5, h => b_Mo_isEmpty_6 K N (l_Mo_isEmpty_6 K N o n) o v1 v2 v3 v4 v5 h
def f_Mo_isEmpty (K : Nat → ClassId) (N : Nat) (o : Nat) (a1 : Int32) (a2 : Int32) (a3 : Int32) (h0 : fh_H) : Option (Int32 × fh_H) :=
  l_Mo_isEmpty_6 K N o N a1 a2 a3 1 0 h0
set_option maxHeartbeats 4000000 in
set_option maxRecDepth 100000 in
theorem c_Mo_isEmpty {l : Launch} {D : va_G} {K : Nat → ClassId} {t : Nat → Nat} {N : Nat} {o : Nat} {a1 : Int32} {a2 : Int32} {a3 : Int32} {h0 : fh_H} {res : Int32 × fh_H} (hf : f_Mo_isEmpty K N o a1 a2 a3 h0 = some res) : fC l D K t y_Mo_isEmpty c0_Mo_isEmpty 6 (some .boolean) rm_Mo_isEmpty [.ref o, .int a1, .int a2, .int a3] h0 (some (.int res.1)) res.2 := by
  refine fh_body (by decide) (Nat.le_of_ble_eq_true rfl) ?_
  intro p e s m below meth c A ls S hr hk hnm hE hAe hI hl
  obtain ⟨hx, hb, hml, hown, hts⟩ := id S
  have hl : lv_has ls 6 [(0, va_rf (some o)), (1, .int a1), (2, .int a2), (3, .int a3)] := hl
  have L6 : ∀ (n6 : Nat) (v1 : Int32) (v2 : Int32) (v3 : Int32) (v4 : Int32) (v5 : Int32) (h : fh_H) (H : Heap) (locs : List Loc) (ls : Array Slot), lv_has ls 6 [(0, va_rf (some o)), (1, .int v1), (2, .int v2), (3, .int v3), (4, .int v4), (5, .int v5)] → fh_I D classes A s.heap h H locs → l_Mo_isEmpty_6 K N o n6 v1 v2 v3 v4 v5 h = some res → W p l e rm_Mo_isEmpty s m [.ref o, .int a1, .int a2, .int a3].toArray below meth c H locs 0 0 (MQ below (fh_Q D classes h0 s.heap.size (some (.int res.1)) res.2) [.ref o, .int a1, .int a2, .int a3].toArray s 0 0 A) (F0 m 6 ls []) := by
    intro n6
    induction n6 with
    | zero =>
      intro v1 v2 v3 v4 v5 h H locs ls hl hI hf
      exact fh_no hf
    | succ n6 ih6 =>
      have B68 : ∀ (v1 : Int32) (v2 : Int32) (v3 : Int32) (v5 : Int32) (w0 : Int32) (h : fh_H) (H : Heap) (locs : List Loc) (ls : Array Slot), lv_has ls 6 [(0, va_rf (some o)), (1, .int v1), (2, .int v2), (3, .int v3), (5, .int v5)] → fh_I D classes A s.heap h H locs → b_Mo_isEmpty_68 K N (l_Mo_isEmpty_6 K N o n6) o v1 v2 v3 v5 w0 h = some res → W p l e rm_Mo_isEmpty s m [.ref o, .int a1, .int a2, .int a3].toArray below meth c H locs 0 0 (MQ below (fh_Q D classes h0 s.heap.size (some (.int res.1)) res.2) [.ref o, .int a1, .int a2, .int a3].toArray s 0 0 A) (F0 m 68 ls [.int w0]) := by
        intro v1 v2 v3 v5 w0 h H locs ls hl hI hf
        unfold b_Mo_isEmpty_68 at hf
        refine lv_istore (lv' := [(4, .int w0), (0, va_rf (some o)), (1, .int v1), (2, .int v2), (3, .int v3), (5, .int v5)]) hx hb d_Mo_isEmpty_68 hl (by decide) rfl (fun ls hl => ?_)
        obtain ⟨x1, e_x1, hf⟩ := fh_b hf
        refine lv_iinc (v := x1) (lv' := [(5, .int x1), (4, .int w0), (0, va_rf (some o)), (1, .int v1), (2, .int v2), (3, .int v3)]) hx hb d_Mo_isEmpty_70 hl (k := 5) rfl (by rw [fh_qe e_x1]; rfl) (by decide) rfl (fun ls hl => ?_)
        refine lv_goto (tgt := 6) hx hb d_Mo_isEmpty_73 (by decide) ?_
        exact ih6 v1 v2 v3 w0 x1 h _ _ _ (lv_sub hl [2, 3, 4, 5, 1, 0] rfl) hI hf
      have B63 : ∀ (v1 : Int32) (v2 : Int32) (v3 : Int32) (v5 : Int32) (h : fh_H) (H : Heap) (locs : List Loc) (ls : Array Slot), lv_has ls 6 [(0, va_rf (some o)), (1, .int v1), (2, .int v2), (3, .int v3), (5, .int v5)] → fh_I D classes A s.heap h H locs → b_Mo_isEmpty_63 K N (l_Mo_isEmpty_6 K N o n6) o v1 v2 v3 v5 h = some res → W p l e rm_Mo_isEmpty s m [.ref o, .int a1, .int a2, .int a3].toArray below meth c H locs 0 0 (MQ below (fh_Q D classes h0 s.heap.size (some (.int res.1)) res.2) [.ref o, .int a1, .int a2, .int a3].toArray s 0 0 A) (F0 m 63 ls []) := by
        intro v1 v2 v3 v5 h H locs ls hl hI hf
        unfold b_Mo_isEmpty_63 at hf
        refine lv_iconst (v := 1) hx hb d_Mo_isEmpty_63 (by decide) ?_
        refine lv_goto (tgt := 68) hx hb d_Mo_isEmpty_64 (by decide) ?_
        exact B68 v1 v2 v3 v5 1 h _ _ _ (lv_sub hl [0, 1, 2, 3, 4] rfl) hI hf
      have B67 : ∀ (v1 : Int32) (v2 : Int32) (v3 : Int32) (v5 : Int32) (h : fh_H) (H : Heap) (locs : List Loc) (ls : Array Slot), lv_has ls 6 [(0, va_rf (some o)), (1, .int v1), (2, .int v2), (3, .int v3), (5, .int v5)] → fh_I D classes A s.heap h H locs → b_Mo_isEmpty_67 K N (l_Mo_isEmpty_6 K N o n6) o v1 v2 v3 v5 h = some res → W p l e rm_Mo_isEmpty s m [.ref o, .int a1, .int a2, .int a3].toArray below meth c H locs 0 0 (MQ below (fh_Q D classes h0 s.heap.size (some (.int res.1)) res.2) [.ref o, .int a1, .int a2, .int a3].toArray s 0 0 A) (F0 m 67 ls []) := by
        intro v1 v2 v3 v5 h H locs ls hl hI hf
        unfold b_Mo_isEmpty_67 at hf
        refine lv_iconst (v := 0) hx hb d_Mo_isEmpty_67 (by decide) ?_
        exact B68 v1 v2 v3 v5 0 h _ _ _ (lv_sub hl [0, 1, 2, 3, 4] rfl) hI hf
      have B58 : ∀ (v1 : Int32) (v2 : Int32) (v3 : Int32) (v5 : Int32) (w0 : Int64) (h : fh_H) (H : Heap) (locs : List Loc) (ls : Array Slot), lv_has ls 6 [(0, va_rf (some o)), (1, .int v1), (2, .int v2), (3, .int v3), (5, .int v5)] → fh_I D classes A s.heap h H locs → b_Mo_isEmpty_58 K N (l_Mo_isEmpty_6 K N o n6) o v1 v2 v3 v5 w0 h = some res → W p l e rm_Mo_isEmpty s m [.ref o, .int a1, .int a2, .int a3].toArray below meth c H locs 0 0 (MQ below (fh_Q D classes h0 s.heap.size (some (.int res.1)) res.2) [.ref o, .int a1, .int a2, .int a3].toArray s 0 0 A) (F0 m 58 ls [.long w0]) := by
        intro v1 v2 v3 v5 w0 h H locs ls hl hI hf
        unfold b_Mo_isEmpty_58 at hf
        refine lv_lconst (v := 0) hx hb d_Mo_isEmpty_58 (by decide) ?_
        refine W.lcmp hx hb d_Mo_isEmpty_59 ?_
        refine lv_if_ne (tgt := 67) hx hb d_Mo_isEmpty_60 (by decide) (fun c_60 => ?_) (fun c_60 => ?_)
        · replace hf := fh_f c_60 hf
          exact B67 v1 v2 v3 v5 h _ _ _ (lv_sub hl [0, 1, 2, 3, 4] rfl) hI hf
        · replace hf := fh_t c_60 hf
          exact B63 v1 v2 v3 v5 h _ _ _ (lv_sub hl [0, 1, 2, 3, 4] rfl) hI hf
      intro v1 v2 v3 v4 v5 h H locs ls hl hI hf
      have hf : b_Mo_isEmpty_6 K N (l_Mo_isEmpty_6 K N o n6) o v1 v2 v3 v4 v5 h = some res := hf
      unfold b_Mo_isEmpty_6 at hf
      refine lv_iload hx hb d_Mo_isEmpty_6 (lv_at hl 5 rfl) ?_
      refine fh_aload_n S d_Mo_isEmpty_8 rfl (lv_at hl 0 rfl) ?_
      obtain ⟨x1, e_x1, hf⟩ := fh_b hf
      refine fh_geti S hE.1 hI e_x1 (hc := rfl) (hin := in_6) (by decide) (hts _ k_168) d_Mo_isEmpty_9 ?_
      refine lv_icmp_ge (tgt := 76) hx hb d_Mo_isEmpty_12 (by decide) (fun c_12 => ?_) (fun c_12 => ?_)
      · replace hf := fh_t c_12 hf
        refine lv_iload hx hb d_Mo_isEmpty_76 (lv_at hl 4 rfl) ?_
        obtain ⟨hz, rfl⟩ := fz_s hf
        exact fh_iret S hr hk (fh_nb hz) hAe hI d_Mo_isEmpty_78
      · replace hf := fh_f c_12 hf
        refine fh_aload_n S d_Mo_isEmpty_15 rfl (lv_at hl 0 rfl) ?_
        refine lv_iload hx hb d_Mo_isEmpty_16 (lv_at hl 5 rfl) ?_
        obtain ⟨h2, e_h2, hf⟩ := fh_b hf
        refine fh_putv S hE.1 hI e_h2 (hc := rfl) (hin := in_6) tok_6 nok_6 (by decide) (hts _ k_141) rfl rfl rfl d_Mo_isEmpty_18 (fun H locs hI => ?_)
        refine lv_iload hx hb d_Mo_isEmpty_21 (lv_at hl 4 rfl) ?_
        refine lv_if_eq (tgt := 67) hx hb d_Mo_isEmpty_23 (by decide) (fun c_23 => ?_) (fun c_23 => ?_)
        · replace hf := fh_t c_23 hf
          exact B67 v1 v2 v3 v5 h2 _ _ _ (lv_sub hl [0, 1, 2, 3, 5] rfl) hI hf
        · replace hf := fh_f c_23 hf
          refine fh_aload_n S d_Mo_isEmpty_26 rfl (lv_at hl 0 rfl) ?_
          obtain ⟨x3, e_x3, hf⟩ := fh_b hf
          refine fh_geta S hE.1 hI e_x3 (hc := rfl) (hin := in_6) (by decide) (hts _ k_162) d_Mo_isEmpty_27 ?_
          refine lv_iload hx hb d_Mo_isEmpty_30 (lv_at hl 5 rfl) ?_
          obtain ⟨x4, e_x4, hf⟩ := fh_b hf
          refine fh_iald S hE.1 hI 0 rfl e_x4 d_Mo_isEmpty_32 ?_
          refine lv_iconst (v := (-1)) hx hb d_Mo_isEmpty_33 (by decide) ?_
          refine lv_icmp_ne (tgt := 63) hx hb d_Mo_isEmpty_34 (by decide) (fun c_34 => ?_) (fun c_34 => ?_)
          · replace hf := fh_f c_34 hf
            exact B63 v1 v2 v3 v5 h2 _ _ _ (lv_sub hl [0, 1, 2, 3, 5] rfl) hI hf
          · replace hf := fh_t c_34 hf
            refine lv_iload_n hx hb d_Mo_isEmpty_37 rfl (lv_at hl 3 rfl) ?_
            refine lv_if_ge (tgt := 50) hx hb d_Mo_isEmpty_38 (by decide) (fun c_38 => ?_) (fun c_38 => ?_)
            · replace hf := fh_t c_38 hf
              refine fh_aload_n S d_Mo_isEmpty_50 rfl (lv_at hl 0 rfl) ?_
              refine lv_iload_n hx hb d_Mo_isEmpty_51 rfl (lv_at hl 1 rfl) ?_
              refine lv_iload_n hx hb d_Mo_isEmpty_52 rfl (lv_at hl 2 rfl) ?_
              refine lv_iload_n hx hb d_Mo_isEmpty_53 rfl (lv_at hl 1 rfl) ?_
              refine lv_iload_n hx hb d_Mo_isEmpty_54 rfl (lv_at hl 3 rfl) ?_
              obtain ⟨o5, e_o5, hf⟩ := fh_b hf
              obtain ⟨r6, e_r6, hf⟩ := fh_b hf
              refine fh_callV (As := [.int v1, .int v2, .int v1, .int v3]) (rest := []) S fT_good hE hI e_o5 rfl (c_Mo_cross e_r6) fy_Mo_cross fst_Mo_cross k_151 ⟨rfl, rfl⟩ ⟨Nat.le_of_ble_eq_true rfl, Nat.le_of_ble_eq_true rfl⟩ ⟨Nat.zero_le _, Nat.zero_le _⟩ rfl hl.1 rfl (Nat.le_of_ble_eq_true rfl) d_Mo_isEmpty_55 (fun H locs hI => ?_)
              exact B58 v1 v2 v3 v5 r6.1 r6.2 _ _ _ (lv_sub hl [0, 1, 2, 3, 5] rfl) hI hf
            · replace hf := fh_f c_38 hf
              refine fh_aload_n S d_Mo_isEmpty_41 rfl (lv_at hl 0 rfl) ?_
              refine lv_iload_n hx hb d_Mo_isEmpty_42 rfl (lv_at hl 1 rfl) ?_
              refine lv_iload_n hx hb d_Mo_isEmpty_43 rfl (lv_at hl 2 rfl) ?_
              obtain ⟨o7, e_o7, hf⟩ := fh_b hf
              obtain ⟨r8, e_r8, hf⟩ := fh_b hf
              refine fh_callV (As := [.int v1, .int v2]) (rest := []) S fT_good hE hI e_o7 rfl (c_Mo_length e_r8) fy_Mo_length fst_Mo_length k_182 ⟨rfl, rfl⟩ ⟨Nat.le_of_ble_eq_true rfl, Nat.le_of_ble_eq_true rfl⟩ ⟨Nat.zero_le _, Nat.zero_le _⟩ rfl hl.1 rfl (Nat.le_of_ble_eq_true rfl) d_Mo_isEmpty_44 (fun H locs hI => ?_)
              refine lv_goto (tgt := 58) hx hb d_Mo_isEmpty_47 (by decide) ?_
              exact B58 v1 v2 v3 v5 r8.1 r8.2 _ _ _ (lv_sub hl [0, 1, 2, 3, 5] rfl) hI hf
  unfold f_Mo_isEmpty at hf
  refine lv_iconst (v := 1) hx hb d_Mo_isEmpty_0 (by decide) ?_
  refine lv_istore (lv' := [(4, .int 1), (0, va_rf (some o)), (1, .int a1), (2, .int a2), (3, .int a3)]) hx hb d_Mo_isEmpty_1 hl (by decide) rfl (fun ls hl => ?_)
  refine lv_iconst (v := 0) hx hb d_Mo_isEmpty_3 (by decide) ?_
  refine lv_istore (lv' := [(5, .int 0), (4, .int 1), (0, va_rf (some o)), (1, .int a1), (2, .int a2), (3, .int a3)]) hx hb d_Mo_isEmpty_4 hl (by decide) rfl (fun ls hl => ?_)
  exact L6 N a1 a2 a3 1 0 h0 _ _ _ (lv_sub hl [2, 3, 4, 5, 1, 0] rfl) hI hf
theorem d_Mo_isTold_0 : decode c0_Mo_isTold 0 = .ok (.aload_n 0, 1) := by decide +kernel
theorem d_Mo_isTold_1 : decode c0_Mo_isTold 1 = .ok (.iload_n 1, 1) := by decide +kernel
theorem d_Mo_isTold_2 : decode c0_Mo_isTold 2 = .ok (.invokevirtual 207, 3) := by decide +kernel
theorem d_Mo_isTold_5 : decode c0_Mo_isTold 5 = .ok (.ifCond .ne 5, 3) := by decide +kernel
theorem d_Mo_isTold_8 : decode c0_Mo_isTold 8 = .ok (.iconst 0, 1) := by decide +kernel
theorem d_Mo_isTold_9 : decode c0_Mo_isTold 9 = .ok (.ireturn, 1) := by decide +kernel
theorem d_Mo_isTold_10 : decode c0_Mo_isTold 10 = .ok (.iconst 1, 1) := by decide +kernel
theorem d_Mo_isTold_11 : decode c0_Mo_isTold 11 = .ok (.istore_n 2, 1) := by decide +kernel
theorem d_Mo_isTold_12 : decode c0_Mo_isTold 12 = .ok (.iconst 0, 1) := by decide +kernel
theorem d_Mo_isTold_13 : decode c0_Mo_isTold 13 = .ok (.istore_n 3, 1) := by decide +kernel
theorem d_Mo_isTold_14 : decode c0_Mo_isTold 14 = .ok (.iload_n 3, 1) := by decide +kernel
theorem d_Mo_isTold_15 : decode c0_Mo_isTold 15 = .ok (.iload_n 1, 1) := by decide +kernel
theorem d_Mo_isTold_16 : decode c0_Mo_isTold 16 = .ok (.invokestatic 201, 3) := by decide +kernel
theorem d_Mo_isTold_19 : decode c0_Mo_isTold 19 = .ok (.if_icmp .ge 79, 3) := by decide +kernel
theorem d_Mo_isTold_22 : decode c0_Mo_isTold 22 = .ok (.iload_n 1, 1) := by decide +kernel
theorem d_Mo_isTold_23 : decode c0_Mo_isTold 23 = .ok (.ifCond .le 75, 3) := by decide +kernel
theorem d_Mo_isTold_26 : decode c0_Mo_isTold 26 = .ok (.iconst 0, 1) := by decide +kernel
theorem d_Mo_isTold_27 : decode c0_Mo_isTold 27 = .ok (.istore 4, 2) := by decide +kernel
theorem d_Mo_isTold_29 : decode c0_Mo_isTold 29 = .ok (.iload 4, 2) := by decide +kernel
theorem d_Mo_isTold_31 : decode c0_Mo_isTold 31 = .ok (.iload_n 3, 1) := by decide +kernel
theorem d_Mo_isTold_32 : decode c0_Mo_isTold 32 = .ok (.if_icmp .ge 60, 3) := by decide +kernel
theorem d_Mo_isTold_35 : decode c0_Mo_isTold 35 = .ok (.iload_n 2, 1) := by decide +kernel
theorem d_Mo_isTold_36 : decode c0_Mo_isTold 36 = .ok (.ifCond .eq 48, 3) := by decide +kernel
theorem d_Mo_isTold_39 : decode c0_Mo_isTold 39 = .ok (.aload_n 0, 1) := by decide +kernel
theorem d_Mo_isTold_40 : decode c0_Mo_isTold 40 = .ok (.getfield 33, 3) := by decide +kernel
theorem d_Mo_isTold_43 : decode c0_Mo_isTold 43 = .ok (.iload_n 3, 1) := by decide +kernel
theorem d_Mo_isTold_44 : decode c0_Mo_isTold 44 = .ok (.iaload, 1) := by decide +kernel
theorem d_Mo_isTold_45 : decode c0_Mo_isTold 45 = .ok (.aload_n 0, 1) := by decide +kernel
theorem d_Mo_isTold_46 : decode c0_Mo_isTold 46 = .ok (.getfield 33, 3) := by decide +kernel
theorem d_Mo_isTold_49 : decode c0_Mo_isTold 49 = .ok (.iload 4, 2) := by decide +kernel
theorem d_Mo_isTold_51 : decode c0_Mo_isTold 51 = .ok (.iaload, 1) := by decide +kernel
theorem d_Mo_isTold_52 : decode c0_Mo_isTold 52 = .ok (.if_icmp .eq 28, 3) := by decide +kernel
theorem d_Mo_isTold_55 : decode c0_Mo_isTold 55 = .ok (.aload_n 0, 1) := by decide +kernel
theorem d_Mo_isTold_56 : decode c0_Mo_isTold 56 = .ok (.getfield 36, 3) := by decide +kernel
theorem d_Mo_isTold_59 : decode c0_Mo_isTold 59 = .ok (.bipush 10, 2) := by decide +kernel
theorem d_Mo_isTold_61 : decode c0_Mo_isTold 61 = .ok (.aload_n 0, 1) := by decide +kernel
theorem d_Mo_isTold_62 : decode c0_Mo_isTold 62 = .ok (.getfield 33, 3) := by decide +kernel
theorem d_Mo_isTold_65 : decode c0_Mo_isTold 65 = .ok (.iload_n 3, 1) := by decide +kernel
theorem d_Mo_isTold_66 : decode c0_Mo_isTold 66 = .ok (.iaload, 1) := by decide +kernel
theorem d_Mo_isTold_67 : decode c0_Mo_isTold 67 = .ok (.imul, 1) := by decide +kernel
theorem d_Mo_isTold_68 : decode c0_Mo_isTold 68 = .ok (.aload_n 0, 1) := by decide +kernel
theorem d_Mo_isTold_69 : decode c0_Mo_isTold 69 = .ok (.getfield 33, 3) := by decide +kernel
theorem d_Mo_isTold_72 : decode c0_Mo_isTold 72 = .ok (.iload 4, 2) := by decide +kernel
theorem d_Mo_isTold_74 : decode c0_Mo_isTold 74 = .ok (.iaload, 1) := by decide +kernel
theorem d_Mo_isTold_75 : decode c0_Mo_isTold 75 = .ok (.iadd, 1) := by decide +kernel
theorem d_Mo_isTold_76 : decode c0_Mo_isTold 76 = .ok (.baload, 1) := by decide +kernel
theorem d_Mo_isTold_77 : decode c0_Mo_isTold 77 = .ok (.ifCond .ne 7, 3) := by decide +kernel
theorem d_Mo_isTold_80 : decode c0_Mo_isTold 80 = .ok (.iconst 1, 1) := by decide +kernel
theorem d_Mo_isTold_81 : decode c0_Mo_isTold 81 = .ok (.goto 4, 3) := by decide +kernel
theorem d_Mo_isTold_84 : decode c0_Mo_isTold 84 = .ok (.iconst 0, 1) := by decide +kernel
theorem d_Mo_isTold_85 : decode c0_Mo_isTold 85 = .ok (.istore_n 2, 1) := by decide +kernel
theorem d_Mo_isTold_86 : decode c0_Mo_isTold 86 = .ok (.iinc 4 1, 3) := by decide +kernel
theorem d_Mo_isTold_89 : decode c0_Mo_isTold 89 = .ok (.goto (-60), 3) := by decide +kernel
theorem d_Mo_isTold_92 : decode c0_Mo_isTold 92 = .ok (.iinc 3 1, 3) := by decide +kernel
theorem d_Mo_isTold_95 : decode c0_Mo_isTold 95 = .ok (.goto (-81), 3) := by decide +kernel
theorem d_Mo_isTold_98 : decode c0_Mo_isTold 98 = .ok (.iload_n 1, 1) := by decide +kernel
theorem d_Mo_isTold_99 : decode c0_Mo_isTold 99 = .ok (.bipush 7, 2) := by decide +kernel
theorem d_Mo_isTold_101 : decode c0_Mo_isTold 101 = .ok (.if_icmp .ne 63, 3) := by decide +kernel
theorem d_Mo_isTold_104 : decode c0_Mo_isTold 104 = .ok (.iload_n 2, 1) := by decide +kernel
theorem d_Mo_isTold_105 : decode c0_Mo_isTold 105 = .ok (.ifCond .eq 57, 3) := by decide +kernel
theorem d_Mo_isTold_108 : decode c0_Mo_isTold 108 = .ok (.aload_n 0, 1) := by decide +kernel
theorem d_Mo_isTold_109 : decode c0_Mo_isTold 109 = .ok (.aload_n 0, 1) := by decide +kernel
theorem d_Mo_isTold_110 : decode c0_Mo_isTold 110 = .ok (.getfield 33, 3) := by decide +kernel
theorem d_Mo_isTold_113 : decode c0_Mo_isTold 113 = .ok (.iconst 0, 1) := by decide +kernel
theorem d_Mo_isTold_114 : decode c0_Mo_isTold 114 = .ok (.iaload, 1) := by decide +kernel
theorem d_Mo_isTold_115 : decode c0_Mo_isTold 115 = .ok (.aload_n 0, 1) := by decide +kernel
theorem d_Mo_isTold_116 : decode c0_Mo_isTold 116 = .ok (.getfield 33, 3) := by decide +kernel
theorem d_Mo_isTold_119 : decode c0_Mo_isTold 119 = .ok (.iconst 1, 1) := by decide +kernel
theorem d_Mo_isTold_120 : decode c0_Mo_isTold 120 = .ok (.iaload, 1) := by decide +kernel
theorem d_Mo_isTold_121 : decode c0_Mo_isTold 121 = .ok (.aload_n 0, 1) := by decide +kernel
theorem d_Mo_isTold_122 : decode c0_Mo_isTold 122 = .ok (.getfield 33, 3) := by decide +kernel
theorem d_Mo_isTold_125 : decode c0_Mo_isTold 125 = .ok (.iconst 2, 1) := by decide +kernel
theorem d_Mo_isTold_126 : decode c0_Mo_isTold 126 = .ok (.iaload, 1) := by decide +kernel
theorem d_Mo_isTold_127 : decode c0_Mo_isTold 127 = .ok (.invokevirtual 213, 3) := by decide +kernel
theorem d_Mo_isTold_130 : decode c0_Mo_isTold 130 = .ok (.ifCond .ne 32, 3) := by decide +kernel
theorem d_Mo_isTold_133 : decode c0_Mo_isTold 133 = .ok (.aload_n 0, 1) := by decide +kernel
theorem d_Mo_isTold_134 : decode c0_Mo_isTold 134 = .ok (.aload_n 0, 1) := by decide +kernel
theorem d_Mo_isTold_135 : decode c0_Mo_isTold 135 = .ok (.getfield 33, 3) := by decide +kernel
theorem d_Mo_isTold_138 : decode c0_Mo_isTold 138 = .ok (.iconst 3, 1) := by decide +kernel
theorem d_Mo_isTold_139 : decode c0_Mo_isTold 139 = .ok (.iaload, 1) := by decide +kernel
theorem d_Mo_isTold_140 : decode c0_Mo_isTold 140 = .ok (.aload_n 0, 1) := by decide +kernel
theorem d_Mo_isTold_141 : decode c0_Mo_isTold 141 = .ok (.getfield 33, 3) := by decide +kernel
theorem d_Mo_isTold_144 : decode c0_Mo_isTold 144 = .ok (.iconst 4, 1) := by decide +kernel
theorem d_Mo_isTold_145 : decode c0_Mo_isTold 145 = .ok (.iaload, 1) := by decide +kernel
theorem d_Mo_isTold_146 : decode c0_Mo_isTold 146 = .ok (.aload_n 0, 1) := by decide +kernel
theorem d_Mo_isTold_147 : decode c0_Mo_isTold 147 = .ok (.getfield 33, 3) := by decide +kernel
theorem d_Mo_isTold_150 : decode c0_Mo_isTold 150 = .ok (.iconst 5, 1) := by decide +kernel
theorem d_Mo_isTold_151 : decode c0_Mo_isTold 151 = .ok (.iaload, 1) := by decide +kernel
theorem d_Mo_isTold_152 : decode c0_Mo_isTold 152 = .ok (.invokevirtual 213, 3) := by decide +kernel
theorem d_Mo_isTold_155 : decode c0_Mo_isTold 155 = .ok (.ifCond .ne 7, 3) := by decide +kernel
theorem d_Mo_isTold_158 : decode c0_Mo_isTold 158 = .ok (.iconst 1, 1) := by decide +kernel
theorem d_Mo_isTold_159 : decode c0_Mo_isTold 159 = .ok (.goto 4, 3) := by decide +kernel
theorem d_Mo_isTold_162 : decode c0_Mo_isTold 162 = .ok (.iconst 0, 1) := by decide +kernel
theorem d_Mo_isTold_163 : decode c0_Mo_isTold 163 = .ok (.ireturn, 1) := by decide +kernel
theorem d_Mo_isTold_164 : decode c0_Mo_isTold 164 = .ok (.iload_n 1, 1) := by decide +kernel
theorem d_Mo_isTold_165 : decode c0_Mo_isTold 165 = .ok (.iconst 1, 1) := by decide +kernel
theorem d_Mo_isTold_166 : decode c0_Mo_isTold 166 = .ok (.if_icmp .le 8, 3) := by decide +kernel
theorem d_Mo_isTold_169 : decode c0_Mo_isTold 169 = .ok (.iload_n 1, 1) := by decide +kernel
theorem d_Mo_isTold_170 : decode c0_Mo_isTold 170 = .ok (.iconst 5, 1) := by decide +kernel
theorem d_Mo_isTold_171 : decode c0_Mo_isTold 171 = .ok (.if_icmp .lt 9, 3) := by decide +kernel
theorem d_Mo_isTold_174 : decode c0_Mo_isTold 174 = .ok (.iload_n 1, 1) := by decide +kernel
theorem d_Mo_isTold_175 : decode c0_Mo_isTold 175 = .ok (.bipush 8, 2) := by decide +kernel
theorem d_Mo_isTold_177 : decode c0_Mo_isTold 177 = .ok (.if_icmp .ne 7, 3) := by decide +kernel
theorem d_Mo_isTold_180 : decode c0_Mo_isTold 180 = .ok (.iconst 1, 1) := by decide +kernel
theorem d_Mo_isTold_181 : decode c0_Mo_isTold 181 = .ok (.goto 4, 3) := by decide +kernel
theorem d_Mo_isTold_184 : decode c0_Mo_isTold 184 = .ok (.iconst 0, 1) := by decide +kernel
theorem d_Mo_isTold_185 : decode c0_Mo_isTold 185 = .ok (.istore_n 3, 1) := by decide +kernel
theorem d_Mo_isTold_186 : decode c0_Mo_isTold 186 = .ok (.iload_n 2, 1) := by decide +kernel
theorem d_Mo_isTold_187 : decode c0_Mo_isTold 187 = .ok (.ifCond .eq 51, 3) := by decide +kernel
theorem d_Mo_isTold_190 : decode c0_Mo_isTold 190 = .ok (.iload_n 3, 1) := by decide +kernel
theorem d_Mo_isTold_191 : decode c0_Mo_isTold 191 = .ok (.ifCond .eq 43, 3) := by decide +kernel
theorem d_Mo_isTold_194 : decode c0_Mo_isTold 194 = .ok (.aload_n 0, 1) := by decide +kernel
theorem d_Mo_isTold_195 : decode c0_Mo_isTold 195 = .ok (.aload_n 0, 1) := by decide +kernel
theorem d_Mo_isTold_196 : decode c0_Mo_isTold 196 = .ok (.getfield 33, 3) := by decide +kernel
theorem d_Mo_isTold_199 : decode c0_Mo_isTold 199 = .ok (.iconst 0, 1) := by decide +kernel
theorem d_Mo_isTold_200 : decode c0_Mo_isTold 200 = .ok (.iaload, 1) := by decide +kernel
theorem d_Mo_isTold_201 : decode c0_Mo_isTold 201 = .ok (.aload_n 0, 1) := by decide +kernel
theorem d_Mo_isTold_202 : decode c0_Mo_isTold 202 = .ok (.getfield 33, 3) := by decide +kernel
theorem d_Mo_isTold_205 : decode c0_Mo_isTold 205 = .ok (.iconst 1, 1) := by decide +kernel
theorem d_Mo_isTold_206 : decode c0_Mo_isTold 206 = .ok (.iaload, 1) := by decide +kernel
theorem d_Mo_isTold_207 : decode c0_Mo_isTold 207 = .ok (.iconst (-1), 1) := by decide +kernel
theorem d_Mo_isTold_208 : decode c0_Mo_isTold 208 = .ok (.invokevirtual 213, 3) := by decide +kernel
theorem d_Mo_isTold_211 : decode c0_Mo_isTold 211 = .ok (.ifCond .ne 27, 3) := by decide +kernel
theorem d_Mo_isTold_214 : decode c0_Mo_isTold 214 = .ok (.aload_n 0, 1) := by decide +kernel
theorem d_Mo_isTold_215 : decode c0_Mo_isTold 215 = .ok (.aload_n 0, 1) := by decide +kernel
theorem d_Mo_isTold_216 : decode c0_Mo_isTold 216 = .ok (.getfield 33, 3) := by decide +kernel
theorem d_Mo_isTold_219 : decode c0_Mo_isTold 219 = .ok (.iconst 2, 1) := by decide +kernel
theorem d_Mo_isTold_220 : decode c0_Mo_isTold 220 = .ok (.iaload, 1) := by decide +kernel
theorem d_Mo_isTold_221 : decode c0_Mo_isTold 221 = .ok (.aload_n 0, 1) := by decide +kernel
theorem d_Mo_isTold_222 : decode c0_Mo_isTold 222 = .ok (.getfield 33, 3) := by decide +kernel
theorem d_Mo_isTold_225 : decode c0_Mo_isTold 225 = .ok (.iconst 3, 1) := by decide +kernel
theorem d_Mo_isTold_226 : decode c0_Mo_isTold 226 = .ok (.iaload, 1) := by decide +kernel
theorem d_Mo_isTold_227 : decode c0_Mo_isTold 227 = .ok (.iconst (-1), 1) := by decide +kernel
theorem d_Mo_isTold_228 : decode c0_Mo_isTold 228 = .ok (.invokevirtual 213, 3) := by decide +kernel
theorem d_Mo_isTold_231 : decode c0_Mo_isTold 231 = .ok (.ifCond .ne 7, 3) := by decide +kernel
theorem d_Mo_isTold_234 : decode c0_Mo_isTold 234 = .ok (.iconst 1, 1) := by decide +kernel
theorem d_Mo_isTold_235 : decode c0_Mo_isTold 235 = .ok (.goto 4, 3) := by decide +kernel
theorem d_Mo_isTold_238 : decode c0_Mo_isTold 238 = .ok (.iconst 0, 1) := by decide +kernel
theorem d_Mo_isTold_239 : decode c0_Mo_isTold 239 = .ok (.ireturn, 1) := by decide +kernel
def b_Mo_isTold_185 (K : Nat → ClassId) (N : Nat) (o : Nat) (v2 : Int32) (w0 : Int32) (h : fh_H) : Option (Int32 × fh_H) :=
  if v2 = 0 then (some (0, h)) else (if w0 = 0 then (some (1, h)) else ((fg_a h (some o) 6 13).bind fun x1 => (fa_i (K 0) h x1 0).bind fun x2 => (fg_a h (some o) 6 13).bind fun x3 => (fa_i (K 0) h x3 1).bind fun x4 => (fg_o h (some o) 6).bind fun o5 => (f_Mo_isEmpty K N o5 x2 x4 (-1) h).bind fun r6 => if r6.1 = 0 then ((fg_a r6.2 (some o) 6 13).bind fun x7 => (fa_i (K 0) r6.2 x7 2).bind fun x8 => (fg_a r6.2 (some o) 6 13).bind fun x9 => (fa_i (K 0) r6.2 x9 3).bind fun x10 => (fg_o r6.2 (some o) 6).bind fun o11 => (f_Mo_isEmpty K N o11 x8 x10 (-1) r6.2).bind fun r12 => if r12.1 = 0 then (some (1, r12.2)) else (some (0, r12.2))) else (some (0, r6.2))))
def b_Mo_isTold_180 (K : Nat → ClassId) (N : Nat) (o : Nat) (v2 : Int32) (h : fh_H) : Option (Int32 × fh_H) :=
  b_Mo_isTold_185 K N o v2 1 h
def b_Mo_isTold_174 (K : Nat → ClassId) (N : Nat) (o : Nat) (v1 : Int32) (v2 : Int32) (h : fh_H) : Option (Int32 × fh_H) :=
  if v1 = 8 then (b_Mo_isTold_180 K N o v2 h) else (b_Mo_isTold_185 K N o v2 0 h)
def b_Mo_isTold_98 (K : Nat → ClassId) (N : Nat) (o : Nat) (v1 : Int32) (v2 : Int32) (h : fh_H) : Option (Int32 × fh_H) :=
  if v1 = 7 then (if v2 = 0 then (some (0, h)) else ((fg_a h (some o) 6 13).bind fun x1 => (fa_i (K 0) h x1 0).bind fun x2 => (fg_a h (some o) 6 13).bind fun x3 => (fa_i (K 0) h x3 1).bind fun x4 => (fg_a h (some o) 6 13).bind fun x5 => (fa_i (K 0) h x5 2).bind fun x6 => (fg_o h (some o) 6).bind fun o7 => (f_Mo_isEmpty K N o7 x2 x4 x6 h).bind fun r8 => if r8.1 = 0 then ((fg_a r8.2 (some o) 6 13).bind fun x9 => (fa_i (K 0) r8.2 x9 3).bind fun x10 => (fg_a r8.2 (some o) 6 13).bind fun x11 => (fa_i (K 0) r8.2 x11 4).bind fun x12 => (fg_a r8.2 (some o) 6 13).bind fun x13 => (fa_i (K 0) r8.2 x13 5).bind fun x14 => (fg_o r8.2 (some o) 6).bind fun o15 => (f_Mo_isEmpty K N o15 x10 x12 x14 r8.2).bind fun r16 => if r16.1 = 0 then (some (1, r16.2)) else (some (0, r16.2))) else (some (0, r8.2)))) else (if v1 ≤ 1 then (b_Mo_isTold_174 K N o v1 v2 h) else (if v1 < 5 then (b_Mo_isTold_180 K N o v2 h) else (b_Mo_isTold_174 K N o v1 v2 h)))
def b_Mo_isTold_85 (K : Nat → ClassId) (N : Nat) (k14 : Int32 → Int32 → Int32 → fh_H → Option (Int32 × fh_H)) (k29 : Int32 → Int32 → Int32 → Int32 → fh_H → Option (Int32 × fh_H)) (o : Nat) (v1 : Int32) (v3 : Int32) (v4 : Int32) (w0 : Int32) (h : fh_H) : Option (Int32 × fh_H) :=
  (some (v4 + 1)).bind fun x1 => k29 v1 w0 v3 x1 h
def b_Mo_isTold_80 (K : Nat → ClassId) (N : Nat) (k14 : Int32 → Int32 → Int32 → fh_H → Option (Int32 × fh_H)) (k29 : Int32 → Int32 → Int32 → Int32 → fh_H → Option (Int32 × fh_H)) (o : Nat) (v1 : Int32) (v3 : Int32) (v4 : Int32) (h : fh_H) : Option (Int32 × fh_H) :=
  b_Mo_isTold_85 K N k14 k29 o v1 v3 v4 1 h
def b_Mo_isTold_84 (K : Nat → ClassId) (N : Nat) (k14 : Int32 → Int32 → Int32 → fh_H → Option (Int32 × fh_H)) (k29 : Int32 → Int32 → Int32 → Int32 → fh_H → Option (Int32 × fh_H)) (o : Nat) (v1 : Int32) (v3 : Int32) (v4 : Int32) (h : fh_H) : Option (Int32 × fh_H) :=
  b_Mo_isTold_85 K N k14 k29 o v1 v3 v4 0 h
def b_Mo_isTold_29 (K : Nat → ClassId) (N : Nat) (k14 : Int32 → Int32 → Int32 → fh_H → Option (Int32 × fh_H)) (k29 : Int32 → Int32 → Int32 → Int32 → fh_H → Option (Int32 × fh_H)) (o : Nat) (v1 : Int32) (v2 : Int32) (v3 : Int32) (v4 : Int32) (h : fh_H) : Option (Int32 × fh_H) :=
  if v3 ≤ v4 then ((some (v3 + 1)).bind fun x1 => k14 v1 v2 x1 h) else (if v2 = 0 then (b_Mo_isTold_84 K N k14 k29 o v1 v3 v4 h) else ((fg_a h (some o) 6 13).bind fun x2 => (fa_i (K 0) h x2 v3).bind fun x3 => (fg_a h (some o) 6 13).bind fun x4 => (fa_i (K 0) h x4 v4).bind fun x5 => if x3 = x5 then (b_Mo_isTold_80 K N k14 k29 o v1 v3 v4 h) else ((fg_a h (some o) 6 16).bind fun x6 => (fg_a h (some o) 6 13).bind fun x7 => (fa_i (K 0) h x7 v3).bind fun x8 => (fg_a h (some o) 6 13).bind fun x9 => (fa_i (K 0) h x9 v4).bind fun x10 => (fa_i (K 2) h x6 ((10 * x8) + x10)).bind fun x11 => if x11 = 0 then (b_Mo_isTold_80 K N k14 k29 o v1 v3 v4 h) else (b_Mo_isTold_84 K N k14 k29 o v1 v3 v4 h))))
def l_Mo_isTold_29 (K : Nat → ClassId) (N : Nat) (k14 : Int32 → Int32 → Int32 → fh_H → Option (Int32 × fh_H)) (o : Nat) : Nat → Int32 → Int32 → Int32 → Int32 → fh_H → Option (Int32 × fh_H)
  | 0, _, _, _, _, _ => none
  | n + 1, v1, v2, v3, v4, h => b_Mo_isTold_29 K N k14 (l_Mo_isTold_29 K N k14 o n) o v1 v2 v3 v4 h
def b_Mo_isTold_14 (K : Nat → ClassId) (N : Nat) (k14 : Int32 → Int32 → Int32 → fh_H → Option (Int32 × fh_H)) (o : Nat) (v1 : Int32) (v2 : Int32) (v3 : Int32) (h : fh_H) : Option (Int32 × fh_H) :=
  (f_Mo_size K N v1 h).bind fun r1 => if r1.1 ≤ v3 then (b_Mo_isTold_98 K N o v1 v2 r1.2) else (if v1 ≤ 0 then (b_Mo_isTold_98 K N o v1 v2 r1.2) else (l_Mo_isTold_29 K N k14 o N v1 v2 v3 0 r1.2))
def l_Mo_isTold_14 (K : Nat → ClassId) (N : Nat) (o : Nat) : Nat → Int32 → Int32 → Int32 → fh_H → Option (Int32 × fh_H)
  | 0, _, _, _, _ => none
  | n + 1, v1, v2, v3, h => b_Mo_isTold_14 K N (l_Mo_isTold_14 K N o n) o v1 v2 v3 h
def f_Mo_isTold (K : Nat → ClassId) (N : Nat) (o : Nat) (a1 : Int32) (h0 : fh_H) : Option (Int32 × fh_H) :=
  (fg_o h0 (some o) 6).bind fun o1 => (f_Mo_isHeld K N o1 a1 h0).bind fun r2 => if r2.1 = 0 then (some (0, r2.2)) else (l_Mo_isTold_14 K N o N a1 1 0 r2.2)
set_option maxHeartbeats 4000000 in
set_option maxRecDepth 100000 in
theorem c_Mo_isTold {l : Launch} {D : va_G} {K : Nat → ClassId} {t : Nat → Nat} {N : Nat} {o : Nat} {a1 : Int32} {h0 : fh_H} {res : Int32 × fh_H} (hf : f_Mo_isTold K N o a1 h0 = some res) : fC l D K t y_Mo_isTold c0_Mo_isTold 5 (some .boolean) rm_Mo_isTold [.ref o, .int a1] h0 (some (.int res.1)) res.2 := by
  refine fh_body (by decide) (Nat.le_of_ble_eq_true rfl) ?_
  intro p e s m below meth c A ls S hr hk hnm hE hAe hI hl
  obtain ⟨hx, hb, hml, hown, hts⟩ := id S
  have hl : lv_has ls 5 [(0, va_rf (some o)), (1, .int a1)] := hl
  have B185 : ∀ (v2 : Int32) (w0 : Int32) (h : fh_H) (H : Heap) (locs : List Loc) (ls : Array Slot), lv_has ls 5 [(0, va_rf (some o)), (2, .int v2)] → fh_I D classes A s.heap h H locs → b_Mo_isTold_185 K N o v2 w0 h = some res → W p l e rm_Mo_isTold s m [.ref o, .int a1].toArray below meth c H locs 0 0 (MQ below (fh_Q D classes h0 s.heap.size (some (.int res.1)) res.2) [.ref o, .int a1].toArray s 0 0 A) (F0 m 185 ls [.int w0]) := by
    intro v2 w0 h H locs ls hl hI hf
    unfold b_Mo_isTold_185 at hf
    refine lv_istore_n (lv' := [(3, .int w0), (0, va_rf (some o)), (2, .int v2)]) hx hb d_Mo_isTold_185 rfl hl (by decide) rfl (fun ls hl => ?_)
    refine lv_iload_n hx hb d_Mo_isTold_186 rfl (lv_at hl 2 rfl) ?_
    refine lv_if_eq (tgt := 238) hx hb d_Mo_isTold_187 (by decide) (fun c_187 => ?_) (fun c_187 => ?_)
    · replace hf := fh_t c_187 hf
      refine lv_iconst (v := 0) hx hb d_Mo_isTold_238 (by decide) ?_
      obtain rfl := Option.some.inj hf
      exact fh_iret S hr hk (fh_nb (Or.inl rfl)) hAe hI d_Mo_isTold_239
    · replace hf := fh_f c_187 hf
      refine lv_iload_n hx hb d_Mo_isTold_190 rfl (lv_at hl 0 rfl) ?_
      refine lv_if_eq (tgt := 234) hx hb d_Mo_isTold_191 (by decide) (fun c_191 => ?_) (fun c_191 => ?_)
      · replace hf := fh_t c_191 hf
        refine lv_iconst (v := 1) hx hb d_Mo_isTold_234 (by decide) ?_
        refine lv_goto (tgt := 239) hx hb d_Mo_isTold_235 (by decide) ?_
        obtain rfl := Option.some.inj hf
        exact fh_iret S hr hk (fh_nb (Or.inr rfl)) hAe hI d_Mo_isTold_239
      · replace hf := fh_f c_191 hf
        refine fh_aload_n S d_Mo_isTold_194 rfl (lv_at hl 1 rfl) ?_
        refine fh_aload_n S d_Mo_isTold_195 rfl (lv_at hl 1 rfl) ?_
        obtain ⟨x1, e_x1, hf⟩ := fh_b hf
        refine fh_geta S hE.1 hI e_x1 (hc := rfl) (hin := in_6) (by decide) (hts _ k_178) d_Mo_isTold_196 ?_
        refine lv_iconst (v := 0) hx hb d_Mo_isTold_199 (by decide) ?_
        obtain ⟨x2, e_x2, hf⟩ := fh_b hf
        refine fh_iald S hE.1 hI 0 rfl e_x2 d_Mo_isTold_200 ?_
        refine fh_aload_n S d_Mo_isTold_201 rfl (lv_at hl 1 rfl) ?_
        obtain ⟨x3, e_x3, hf⟩ := fh_b hf
        refine fh_geta S hE.1 hI e_x3 (hc := rfl) (hin := in_6) (by decide) (hts _ k_178) d_Mo_isTold_202 ?_
        refine lv_iconst (v := 1) hx hb d_Mo_isTold_205 (by decide) ?_
        obtain ⟨x4, e_x4, hf⟩ := fh_b hf
        refine fh_iald S hE.1 hI 0 rfl e_x4 d_Mo_isTold_206 ?_
        refine lv_iconst (v := (-1)) hx hb d_Mo_isTold_207 (by decide) ?_
        obtain ⟨o5, e_o5, hf⟩ := fh_b hf
        obtain ⟨r6, e_r6, hf⟩ := fh_b hf
        refine fh_callV (As := [.int x2, .int x4, .int (-1)]) (rest := []) S fT_good hE hI e_o5 rfl (c_Mo_isEmpty e_r6) fy_Mo_isEmpty fst_Mo_isEmpty k_195 ⟨rfl, rfl⟩ ⟨Nat.le_of_ble_eq_true rfl, Nat.le_of_ble_eq_true rfl⟩ ⟨Nat.zero_le _, Nat.zero_le _⟩ rfl hl.1 rfl (Nat.le_of_ble_eq_true rfl) d_Mo_isTold_208 (fun H locs hI => ?_)
        refine lv_if_ne (tgt := 238) hx hb d_Mo_isTold_211 (by decide) (fun c_211 => ?_) (fun c_211 => ?_)
        · replace hf := fh_f c_211 hf
          refine lv_iconst (v := 0) hx hb d_Mo_isTold_238 (by decide) ?_
          obtain rfl := Option.some.inj hf
          exact fh_iret S hr hk (fh_nb (Or.inl rfl)) hAe hI d_Mo_isTold_239
        · replace hf := fh_t c_211 hf
          refine fh_aload_n S d_Mo_isTold_214 rfl (lv_at hl 1 rfl) ?_
          refine fh_aload_n S d_Mo_isTold_215 rfl (lv_at hl 1 rfl) ?_
          obtain ⟨x7, e_x7, hf⟩ := fh_b hf
          refine fh_geta S hE.1 hI e_x7 (hc := rfl) (hin := in_6) (by decide) (hts _ k_178) d_Mo_isTold_216 ?_
          refine lv_iconst (v := 2) hx hb d_Mo_isTold_219 (by decide) ?_
          obtain ⟨x8, e_x8, hf⟩ := fh_b hf
          refine fh_iald S hE.1 hI 0 rfl e_x8 d_Mo_isTold_220 ?_
          refine fh_aload_n S d_Mo_isTold_221 rfl (lv_at hl 1 rfl) ?_
          obtain ⟨x9, e_x9, hf⟩ := fh_b hf
          refine fh_geta S hE.1 hI e_x9 (hc := rfl) (hin := in_6) (by decide) (hts _ k_178) d_Mo_isTold_222 ?_
          refine lv_iconst (v := 3) hx hb d_Mo_isTold_225 (by decide) ?_
          obtain ⟨x10, e_x10, hf⟩ := fh_b hf
          refine fh_iald S hE.1 hI 0 rfl e_x10 d_Mo_isTold_226 ?_
          refine lv_iconst (v := (-1)) hx hb d_Mo_isTold_227 (by decide) ?_
          obtain ⟨o11, e_o11, hf⟩ := fh_b hf
          obtain ⟨r12, e_r12, hf⟩ := fh_b hf
          refine fh_callV (As := [.int x8, .int x10, .int (-1)]) (rest := []) S fT_good hE hI e_o11 rfl (c_Mo_isEmpty e_r12) fy_Mo_isEmpty fst_Mo_isEmpty k_195 ⟨rfl, rfl⟩ ⟨Nat.le_of_ble_eq_true rfl, Nat.le_of_ble_eq_true rfl⟩ ⟨Nat.zero_le _, Nat.zero_le _⟩ rfl hl.1 rfl (Nat.le_of_ble_eq_true rfl) d_Mo_isTold_228 (fun H locs hI => ?_)
          refine lv_if_ne (tgt := 238) hx hb d_Mo_isTold_231 (by decide) (fun c_231 => ?_) (fun c_231 => ?_)
          · replace hf := fh_f c_231 hf
            refine lv_iconst (v := 0) hx hb d_Mo_isTold_238 (by decide) ?_
            obtain rfl := Option.some.inj hf
            exact fh_iret S hr hk (fh_nb (Or.inl rfl)) hAe hI d_Mo_isTold_239
          · replace hf := fh_t c_231 hf
            refine lv_iconst (v := 1) hx hb d_Mo_isTold_234 (by decide) ?_
            refine lv_goto (tgt := 239) hx hb d_Mo_isTold_235 (by decide) ?_
            obtain rfl := Option.some.inj hf
            exact fh_iret S hr hk (fh_nb (Or.inr rfl)) hAe hI d_Mo_isTold_239
  have B180 : ∀ (v2 : Int32) (h : fh_H) (H : Heap) (locs : List Loc) (ls : Array Slot), lv_has ls 5 [(0, va_rf (some o)), (2, .int v2)] → fh_I D classes A s.heap h H locs → b_Mo_isTold_180 K N o v2 h = some res → W p l e rm_Mo_isTold s m [.ref o, .int a1].toArray below meth c H locs 0 0 (MQ below (fh_Q D classes h0 s.heap.size (some (.int res.1)) res.2) [.ref o, .int a1].toArray s 0 0 A) (F0 m 180 ls []) := by
    intro v2 h H locs ls hl hI hf
    unfold b_Mo_isTold_180 at hf
    refine lv_iconst (v := 1) hx hb d_Mo_isTold_180 (by decide) ?_
    refine lv_goto (tgt := 185) hx hb d_Mo_isTold_181 (by decide) ?_
    exact B185 v2 1 h _ _ _ (lv_sub hl [0, 1] rfl) hI hf
  have B174 : ∀ (v1 : Int32) (v2 : Int32) (h : fh_H) (H : Heap) (locs : List Loc) (ls : Array Slot), lv_has ls 5 [(0, va_rf (some o)), (1, .int v1), (2, .int v2)] → fh_I D classes A s.heap h H locs → b_Mo_isTold_174 K N o v1 v2 h = some res → W p l e rm_Mo_isTold s m [.ref o, .int a1].toArray below meth c H locs 0 0 (MQ below (fh_Q D classes h0 s.heap.size (some (.int res.1)) res.2) [.ref o, .int a1].toArray s 0 0 A) (F0 m 174 ls []) := by
    intro v1 v2 h H locs ls hl hI hf
    unfold b_Mo_isTold_174 at hf
    refine lv_iload_n hx hb d_Mo_isTold_174 rfl (lv_at hl 1 rfl) ?_
    refine lv_bipush (v := 8) hx hb d_Mo_isTold_175 (by decide) ?_
    refine lv_icmp_ne (tgt := 184) hx hb d_Mo_isTold_177 (by decide) (fun c_177 => ?_) (fun c_177 => ?_)
    · replace hf := fh_f c_177 hf
      refine lv_iconst (v := 0) hx hb d_Mo_isTold_184 (by decide) ?_
      exact B185 v2 0 h _ _ _ (lv_sub hl [0, 2] rfl) hI hf
    · replace hf := fh_t c_177 hf
      exact B180 v2 h _ _ _ (lv_sub hl [0, 2] rfl) hI hf
  have B98 : ∀ (v1 : Int32) (v2 : Int32) (h : fh_H) (H : Heap) (locs : List Loc) (ls : Array Slot), lv_has ls 5 [(0, va_rf (some o)), (1, .int v1), (2, .int v2)] → fh_I D classes A s.heap h H locs → b_Mo_isTold_98 K N o v1 v2 h = some res → W p l e rm_Mo_isTold s m [.ref o, .int a1].toArray below meth c H locs 0 0 (MQ below (fh_Q D classes h0 s.heap.size (some (.int res.1)) res.2) [.ref o, .int a1].toArray s 0 0 A) (F0 m 98 ls []) := by
    intro v1 v2 h H locs ls hl hI hf
    unfold b_Mo_isTold_98 at hf
    refine lv_iload_n hx hb d_Mo_isTold_98 rfl (lv_at hl 1 rfl) ?_
    refine lv_bipush (v := 7) hx hb d_Mo_isTold_99 (by decide) ?_
    refine lv_icmp_ne (tgt := 164) hx hb d_Mo_isTold_101 (by decide) (fun c_101 => ?_) (fun c_101 => ?_)
    · replace hf := fh_f c_101 hf
      refine lv_iload_n hx hb d_Mo_isTold_164 rfl (lv_at hl 1 rfl) ?_
      refine lv_iconst (v := 1) hx hb d_Mo_isTold_165 (by decide) ?_
      refine lv_icmp_le (tgt := 174) hx hb d_Mo_isTold_166 (by decide) (fun c_166 => ?_) (fun c_166 => ?_)
      · replace hf := fh_t c_166 hf
        exact B174 v1 v2 h _ _ _ (lv_sub hl [0, 1, 2] rfl) hI hf
      · replace hf := fh_f c_166 hf
        refine lv_iload_n hx hb d_Mo_isTold_169 rfl (lv_at hl 1 rfl) ?_
        refine lv_iconst (v := 5) hx hb d_Mo_isTold_170 (by decide) ?_
        refine lv_icmp_lt (tgt := 180) hx hb d_Mo_isTold_171 (by decide) (fun c_171 => ?_) (fun c_171 => ?_)
        · replace hf := fh_t c_171 hf
          exact B180 v2 h _ _ _ (lv_sub hl [0, 2] rfl) hI hf
        · replace hf := fh_f c_171 hf
          exact B174 v1 v2 h _ _ _ (lv_sub hl [0, 1, 2] rfl) hI hf
    · replace hf := fh_t c_101 hf
      refine lv_iload_n hx hb d_Mo_isTold_104 rfl (lv_at hl 2 rfl) ?_
      refine lv_if_eq (tgt := 162) hx hb d_Mo_isTold_105 (by decide) (fun c_105 => ?_) (fun c_105 => ?_)
      · replace hf := fh_t c_105 hf
        refine lv_iconst (v := 0) hx hb d_Mo_isTold_162 (by decide) ?_
        obtain rfl := Option.some.inj hf
        exact fh_iret S hr hk (fh_nb (Or.inl rfl)) hAe hI d_Mo_isTold_163
      · replace hf := fh_f c_105 hf
        refine fh_aload_n S d_Mo_isTold_108 rfl (lv_at hl 0 rfl) ?_
        refine fh_aload_n S d_Mo_isTold_109 rfl (lv_at hl 0 rfl) ?_
        obtain ⟨x1, e_x1, hf⟩ := fh_b hf
        refine fh_geta S hE.1 hI e_x1 (hc := rfl) (hin := in_6) (by decide) (hts _ k_178) d_Mo_isTold_110 ?_
        refine lv_iconst (v := 0) hx hb d_Mo_isTold_113 (by decide) ?_
        obtain ⟨x2, e_x2, hf⟩ := fh_b hf
        refine fh_iald S hE.1 hI 0 rfl e_x2 d_Mo_isTold_114 ?_
        refine fh_aload_n S d_Mo_isTold_115 rfl (lv_at hl 0 rfl) ?_
        obtain ⟨x3, e_x3, hf⟩ := fh_b hf
        refine fh_geta S hE.1 hI e_x3 (hc := rfl) (hin := in_6) (by decide) (hts _ k_178) d_Mo_isTold_116 ?_
        refine lv_iconst (v := 1) hx hb d_Mo_isTold_119 (by decide) ?_
        obtain ⟨x4, e_x4, hf⟩ := fh_b hf
        refine fh_iald S hE.1 hI 0 rfl e_x4 d_Mo_isTold_120 ?_
        refine fh_aload_n S d_Mo_isTold_121 rfl (lv_at hl 0 rfl) ?_
        obtain ⟨x5, e_x5, hf⟩ := fh_b hf
        refine fh_geta S hE.1 hI e_x5 (hc := rfl) (hin := in_6) (by decide) (hts _ k_178) d_Mo_isTold_122 ?_
        refine lv_iconst (v := 2) hx hb d_Mo_isTold_125 (by decide) ?_
        obtain ⟨x6, e_x6, hf⟩ := fh_b hf
        refine fh_iald S hE.1 hI 0 rfl e_x6 d_Mo_isTold_126 ?_
        obtain ⟨o7, e_o7, hf⟩ := fh_b hf
        obtain ⟨r8, e_r8, hf⟩ := fh_b hf
        refine fh_callV (As := [.int x2, .int x4, .int x6]) (rest := []) S fT_good hE hI e_o7 rfl (c_Mo_isEmpty e_r8) fy_Mo_isEmpty fst_Mo_isEmpty k_195 ⟨rfl, rfl⟩ ⟨Nat.le_of_ble_eq_true rfl, Nat.le_of_ble_eq_true rfl⟩ ⟨Nat.zero_le _, Nat.zero_le _⟩ rfl hl.1 rfl (Nat.le_of_ble_eq_true rfl) d_Mo_isTold_127 (fun H locs hI => ?_)
        refine lv_if_ne (tgt := 162) hx hb d_Mo_isTold_130 (by decide) (fun c_130 => ?_) (fun c_130 => ?_)
        · replace hf := fh_f c_130 hf
          refine lv_iconst (v := 0) hx hb d_Mo_isTold_162 (by decide) ?_
          obtain rfl := Option.some.inj hf
          exact fh_iret S hr hk (fh_nb (Or.inl rfl)) hAe hI d_Mo_isTold_163
        · replace hf := fh_t c_130 hf
          refine fh_aload_n S d_Mo_isTold_133 rfl (lv_at hl 0 rfl) ?_
          refine fh_aload_n S d_Mo_isTold_134 rfl (lv_at hl 0 rfl) ?_
          obtain ⟨x9, e_x9, hf⟩ := fh_b hf
          refine fh_geta S hE.1 hI e_x9 (hc := rfl) (hin := in_6) (by decide) (hts _ k_178) d_Mo_isTold_135 ?_
          refine lv_iconst (v := 3) hx hb d_Mo_isTold_138 (by decide) ?_
          obtain ⟨x10, e_x10, hf⟩ := fh_b hf
          refine fh_iald S hE.1 hI 0 rfl e_x10 d_Mo_isTold_139 ?_
          refine fh_aload_n S d_Mo_isTold_140 rfl (lv_at hl 0 rfl) ?_
          obtain ⟨x11, e_x11, hf⟩ := fh_b hf
          refine fh_geta S hE.1 hI e_x11 (hc := rfl) (hin := in_6) (by decide) (hts _ k_178) d_Mo_isTold_141 ?_
          refine lv_iconst (v := 4) hx hb d_Mo_isTold_144 (by decide) ?_
          obtain ⟨x12, e_x12, hf⟩ := fh_b hf
          refine fh_iald S hE.1 hI 0 rfl e_x12 d_Mo_isTold_145 ?_
          refine fh_aload_n S d_Mo_isTold_146 rfl (lv_at hl 0 rfl) ?_
          obtain ⟨x13, e_x13, hf⟩ := fh_b hf
          refine fh_geta S hE.1 hI e_x13 (hc := rfl) (hin := in_6) (by decide) (hts _ k_178) d_Mo_isTold_147 ?_
          refine lv_iconst (v := 5) hx hb d_Mo_isTold_150 (by decide) ?_
          obtain ⟨x14, e_x14, hf⟩ := fh_b hf
          refine fh_iald S hE.1 hI 0 rfl e_x14 d_Mo_isTold_151 ?_
          obtain ⟨o15, e_o15, hf⟩ := fh_b hf
          obtain ⟨r16, e_r16, hf⟩ := fh_b hf
          refine fh_callV (As := [.int x10, .int x12, .int x14]) (rest := []) S fT_good hE hI e_o15 rfl (c_Mo_isEmpty e_r16) fy_Mo_isEmpty fst_Mo_isEmpty k_195 ⟨rfl, rfl⟩ ⟨Nat.le_of_ble_eq_true rfl, Nat.le_of_ble_eq_true rfl⟩ ⟨Nat.zero_le _, Nat.zero_le _⟩ rfl hl.1 rfl (Nat.le_of_ble_eq_true rfl) d_Mo_isTold_152 (fun H locs hI => ?_)
          refine lv_if_ne (tgt := 162) hx hb d_Mo_isTold_155 (by decide) (fun c_155 => ?_) (fun c_155 => ?_)
          · replace hf := fh_f c_155 hf
            refine lv_iconst (v := 0) hx hb d_Mo_isTold_162 (by decide) ?_
            obtain rfl := Option.some.inj hf
            exact fh_iret S hr hk (fh_nb (Or.inl rfl)) hAe hI d_Mo_isTold_163
          · replace hf := fh_t c_155 hf
            refine lv_iconst (v := 1) hx hb d_Mo_isTold_158 (by decide) ?_
            refine lv_goto (tgt := 163) hx hb d_Mo_isTold_159 (by decide) ?_
            obtain rfl := Option.some.inj hf
            exact fh_iret S hr hk (fh_nb (Or.inr rfl)) hAe hI d_Mo_isTold_163
  have L14 : ∀ (n14 : Nat) (v1 : Int32) (v2 : Int32) (v3 : Int32) (h : fh_H) (H : Heap) (locs : List Loc) (ls : Array Slot), lv_has ls 5 [(0, va_rf (some o)), (1, .int v1), (2, .int v2), (3, .int v3)] → fh_I D classes A s.heap h H locs → l_Mo_isTold_14 K N o n14 v1 v2 v3 h = some res → W p l e rm_Mo_isTold s m [.ref o, .int a1].toArray below meth c H locs 0 0 (MQ below (fh_Q D classes h0 s.heap.size (some (.int res.1)) res.2) [.ref o, .int a1].toArray s 0 0 A) (F0 m 14 ls []) := by
    intro n14
    induction n14 with
    | zero =>
      intro v1 v2 v3 h H locs ls hl hI hf
      exact fh_no hf
    | succ n14 ih14 =>
      have L29 : ∀ (n29 : Nat) (v1 : Int32) (v2 : Int32) (v3 : Int32) (v4 : Int32) (h : fh_H) (H : Heap) (locs : List Loc) (ls : Array Slot), lv_has ls 5 [(0, va_rf (some o)), (1, .int v1), (2, .int v2), (3, .int v3), (4, .int v4)] → fh_I D classes A s.heap h H locs → l_Mo_isTold_29 K N (l_Mo_isTold_14 K N o n14) o n29 v1 v2 v3 v4 h = some res → W p l e rm_Mo_isTold s m [.ref o, .int a1].toArray below meth c H locs 0 0 (MQ below (fh_Q D classes h0 s.heap.size (some (.int res.1)) res.2) [.ref o, .int a1].toArray s 0 0 A) (F0 m 29 ls []) := by
        intro n29
        induction n29 with
        | zero =>
          intro v1 v2 v3 v4 h H locs ls hl hI hf
          exact fh_no hf
        | succ n29 ih29 =>
          have B85 : ∀ (v1 : Int32) (v3 : Int32) (v4 : Int32) (w0 : Int32) (h : fh_H) (H : Heap) (locs : List Loc) (ls : Array Slot), lv_has ls 5 [(0, va_rf (some o)), (1, .int v1), (3, .int v3), (4, .int v4)] → fh_I D classes A s.heap h H locs → b_Mo_isTold_85 K N (l_Mo_isTold_14 K N o n14) (l_Mo_isTold_29 K N (l_Mo_isTold_14 K N o n14) o n29) o v1 v3 v4 w0 h = some res → W p l e rm_Mo_isTold s m [.ref o, .int a1].toArray below meth c H locs 0 0 (MQ below (fh_Q D classes h0 s.heap.size (some (.int res.1)) res.2) [.ref o, .int a1].toArray s 0 0 A) (F0 m 85 ls [.int w0]) := by
            intro v1 v3 v4 w0 h H locs ls hl hI hf
            unfold b_Mo_isTold_85 at hf
            refine lv_istore_n (lv' := [(2, .int w0), (0, va_rf (some o)), (1, .int v1), (3, .int v3), (4, .int v4)]) hx hb d_Mo_isTold_85 rfl hl (by decide) rfl (fun ls hl => ?_)
            obtain ⟨x1, e_x1, hf⟩ := fh_b hf
            refine lv_iinc (v := x1) (lv' := [(4, .int x1), (2, .int w0), (0, va_rf (some o)), (1, .int v1), (3, .int v3)]) hx hb d_Mo_isTold_86 hl (k := 4) rfl (by rw [fh_qe e_x1]; rfl) (by decide) rfl (fun ls hl => ?_)
            refine lv_goto (tgt := 29) hx hb d_Mo_isTold_89 (by decide) ?_
            exact ih29 v1 w0 v3 x1 h _ _ _ (lv_sub hl [2, 3, 1, 4, 0] rfl) hI hf
          have B80 : ∀ (v1 : Int32) (v3 : Int32) (v4 : Int32) (h : fh_H) (H : Heap) (locs : List Loc) (ls : Array Slot), lv_has ls 5 [(0, va_rf (some o)), (1, .int v1), (3, .int v3), (4, .int v4)] → fh_I D classes A s.heap h H locs → b_Mo_isTold_80 K N (l_Mo_isTold_14 K N o n14) (l_Mo_isTold_29 K N (l_Mo_isTold_14 K N o n14) o n29) o v1 v3 v4 h = some res → W p l e rm_Mo_isTold s m [.ref o, .int a1].toArray below meth c H locs 0 0 (MQ below (fh_Q D classes h0 s.heap.size (some (.int res.1)) res.2) [.ref o, .int a1].toArray s 0 0 A) (F0 m 80 ls []) := by
            intro v1 v3 v4 h H locs ls hl hI hf
            unfold b_Mo_isTold_80 at hf
            refine lv_iconst (v := 1) hx hb d_Mo_isTold_80 (by decide) ?_
            refine lv_goto (tgt := 85) hx hb d_Mo_isTold_81 (by decide) ?_
            exact B85 v1 v3 v4 1 h _ _ _ (lv_sub hl [0, 1, 2, 3] rfl) hI hf
          have B84 : ∀ (v1 : Int32) (v3 : Int32) (v4 : Int32) (h : fh_H) (H : Heap) (locs : List Loc) (ls : Array Slot), lv_has ls 5 [(0, va_rf (some o)), (1, .int v1), (3, .int v3), (4, .int v4)] → fh_I D classes A s.heap h H locs → b_Mo_isTold_84 K N (l_Mo_isTold_14 K N o n14) (l_Mo_isTold_29 K N (l_Mo_isTold_14 K N o n14) o n29) o v1 v3 v4 h = some res → W p l e rm_Mo_isTold s m [.ref o, .int a1].toArray below meth c H locs 0 0 (MQ below (fh_Q D classes h0 s.heap.size (some (.int res.1)) res.2) [.ref o, .int a1].toArray s 0 0 A) (F0 m 84 ls []) := by
            intro v1 v3 v4 h H locs ls hl hI hf
            unfold b_Mo_isTold_84 at hf
            refine lv_iconst (v := 0) hx hb d_Mo_isTold_84 (by decide) ?_
            exact B85 v1 v3 v4 0 h _ _ _ (lv_sub hl [0, 1, 2, 3] rfl) hI hf
          intro v1 v2 v3 v4 h H locs ls hl hI hf
          have hf : b_Mo_isTold_29 K N (l_Mo_isTold_14 K N o n14) (l_Mo_isTold_29 K N (l_Mo_isTold_14 K N o n14) o n29) o v1 v2 v3 v4 h = some res := hf
          unfold b_Mo_isTold_29 at hf
          refine lv_iload hx hb d_Mo_isTold_29 (lv_at hl 4 rfl) ?_
          refine lv_iload_n hx hb d_Mo_isTold_31 rfl (lv_at hl 3 rfl) ?_
          refine lv_icmp_ge (tgt := 92) hx hb d_Mo_isTold_32 (by decide) (fun c_32 => ?_) (fun c_32 => ?_)
          · replace hf := fh_t c_32 hf
            obtain ⟨x1, e_x1, hf⟩ := fh_b hf
            refine lv_iinc (v := x1) (lv' := [(3, .int x1), (0, va_rf (some o)), (1, .int v1), (2, .int v2), (4, .int v4)]) hx hb d_Mo_isTold_92 hl (k := 3) rfl (by rw [fh_qe e_x1]; rfl) (by decide) rfl (fun ls hl => ?_)
            refine lv_goto (tgt := 14) hx hb d_Mo_isTold_95 (by decide) ?_
            exact ih14 v1 v2 x1 h _ _ _ (lv_sub hl [1, 2, 3, 0] rfl) hI hf
          · replace hf := fh_f c_32 hf
            refine lv_iload_n hx hb d_Mo_isTold_35 rfl (lv_at hl 2 rfl) ?_
            refine lv_if_eq (tgt := 84) hx hb d_Mo_isTold_36 (by decide) (fun c_36 => ?_) (fun c_36 => ?_)
            · replace hf := fh_t c_36 hf
              exact B84 v1 v3 v4 h _ _ _ (lv_sub hl [0, 1, 3, 4] rfl) hI hf
            · replace hf := fh_f c_36 hf
              refine fh_aload_n S d_Mo_isTold_39 rfl (lv_at hl 0 rfl) ?_
              obtain ⟨x2, e_x2, hf⟩ := fh_b hf
              refine fh_geta S hE.1 hI e_x2 (hc := rfl) (hin := in_6) (by decide) (hts _ k_178) d_Mo_isTold_40 ?_
              refine lv_iload_n hx hb d_Mo_isTold_43 rfl (lv_at hl 3 rfl) ?_
              obtain ⟨x3, e_x3, hf⟩ := fh_b hf
              refine fh_iald S hE.1 hI 0 rfl e_x3 d_Mo_isTold_44 ?_
              refine fh_aload_n S d_Mo_isTold_45 rfl (lv_at hl 0 rfl) ?_
              obtain ⟨x4, e_x4, hf⟩ := fh_b hf
              refine fh_geta S hE.1 hI e_x4 (hc := rfl) (hin := in_6) (by decide) (hts _ k_178) d_Mo_isTold_46 ?_
              refine lv_iload hx hb d_Mo_isTold_49 (lv_at hl 4 rfl) ?_
              obtain ⟨x5, e_x5, hf⟩ := fh_b hf
              refine fh_iald S hE.1 hI 0 rfl e_x5 d_Mo_isTold_51 ?_
              refine lv_icmp_eq (tgt := 80) hx hb d_Mo_isTold_52 (by decide) (fun c_52 => ?_) (fun c_52 => ?_)
              · replace hf := fh_t c_52 hf
                exact B80 v1 v3 v4 h _ _ _ (lv_sub hl [0, 1, 3, 4] rfl) hI hf
              · replace hf := fh_f c_52 hf
                refine fh_aload_n S d_Mo_isTold_55 rfl (lv_at hl 0 rfl) ?_
                obtain ⟨x6, e_x6, hf⟩ := fh_b hf
                refine fh_geta S hE.1 hI e_x6 (hc := rfl) (hin := in_6) (by decide) (hts _ k_185) d_Mo_isTold_56 ?_
                refine lv_bipush (v := 10) hx hb d_Mo_isTold_59 (by decide) ?_
                refine fh_aload_n S d_Mo_isTold_61 rfl (lv_at hl 0 rfl) ?_
                obtain ⟨x7, e_x7, hf⟩ := fh_b hf
                refine fh_geta S hE.1 hI e_x7 (hc := rfl) (hin := in_6) (by decide) (hts _ k_178) d_Mo_isTold_62 ?_
                refine lv_iload_n hx hb d_Mo_isTold_65 rfl (lv_at hl 3 rfl) ?_
                obtain ⟨x8, e_x8, hf⟩ := fh_b hf
                refine fh_iald S hE.1 hI 0 rfl e_x8 d_Mo_isTold_66 ?_
                refine lv_imul hx hb d_Mo_isTold_67 ?_
                refine fh_aload_n S d_Mo_isTold_68 rfl (lv_at hl 0 rfl) ?_
                obtain ⟨x9, e_x9, hf⟩ := fh_b hf
                refine fh_geta S hE.1 hI e_x9 (hc := rfl) (hin := in_6) (by decide) (hts _ k_178) d_Mo_isTold_69 ?_
                refine lv_iload hx hb d_Mo_isTold_72 (lv_at hl 4 rfl) ?_
                obtain ⟨x10, e_x10, hf⟩ := fh_b hf
                refine fh_iald S hE.1 hI 0 rfl e_x10 d_Mo_isTold_74 ?_
                refine lv_iadd hx hb d_Mo_isTold_75 ?_
                obtain ⟨x11, e_x11, hf⟩ := fh_b hf
                refine fh_zald S hE.1 hI 2 rfl e_x11 d_Mo_isTold_76 ?_
                refine lv_if_ne (tgt := 84) hx hb d_Mo_isTold_77 (by decide) (fun c_77 => ?_) (fun c_77 => ?_)
                · replace hf := fh_f c_77 hf
                  exact B84 v1 v3 v4 h _ _ _ (lv_sub hl [0, 1, 3, 4] rfl) hI hf
                · replace hf := fh_t c_77 hf
                  exact B80 v1 v3 v4 h _ _ _ (lv_sub hl [0, 1, 3, 4] rfl) hI hf
      intro v1 v2 v3 h H locs ls hl hI hf
      have hf : b_Mo_isTold_14 K N (l_Mo_isTold_14 K N o n14) o v1 v2 v3 h = some res := hf
      unfold b_Mo_isTold_14 at hf
      refine lv_iload_n hx hb d_Mo_isTold_14 rfl (lv_at hl 3 rfl) ?_
      refine lv_iload_n hx hb d_Mo_isTold_15 rfl (lv_at hl 1 rfl) ?_
      obtain ⟨r1, e_r1, hf⟩ := fh_b hf
      refine fh_callS (As := [.int v1]) (rest := [.int v3]) S fT_good hE hI (c_Mo_size e_r1) fy_Mo_size fst_Mo_size k_192 ⟨rfl, rfl⟩ ⟨Nat.le_of_ble_eq_true rfl, Nat.le_of_ble_eq_true rfl⟩ ⟨Nat.zero_le _, Nat.zero_le _⟩ rfl hl.1 rfl (Nat.le_of_ble_eq_true rfl) d_Mo_isTold_16 (fun H locs hI => ?_)
      refine lv_icmp_ge (tgt := 98) hx hb d_Mo_isTold_19 (by decide) (fun c_19 => ?_) (fun c_19 => ?_)
      · replace hf := fh_t c_19 hf
        exact B98 v1 v2 r1.2 _ _ _ (lv_sub hl [0, 1, 2] rfl) hI hf
      · replace hf := fh_f c_19 hf
        refine lv_iload_n hx hb d_Mo_isTold_22 rfl (lv_at hl 1 rfl) ?_
        refine lv_if_le (tgt := 98) hx hb d_Mo_isTold_23 (by decide) (fun c_23 => ?_) (fun c_23 => ?_)
        · replace hf := fh_t c_23 hf
          exact B98 v1 v2 r1.2 _ _ _ (lv_sub hl [0, 1, 2] rfl) hI hf
        · replace hf := fh_f c_23 hf
          refine lv_iconst (v := 0) hx hb d_Mo_isTold_26 (by decide) ?_
          refine lv_istore (lv' := [(4, .int 0), (0, va_rf (some o)), (1, .int v1), (2, .int v2), (3, .int v3)]) hx hb d_Mo_isTold_27 hl (by decide) rfl (fun ls hl => ?_)
          exact L29 N v1 v2 v3 0 r1.2 _ _ _ (lv_sub hl [1, 2, 3, 4, 0] rfl) hI hf
  unfold f_Mo_isTold at hf
  refine fh_aload_n S d_Mo_isTold_0 rfl (lv_at hl 0 rfl) ?_
  refine lv_iload_n hx hb d_Mo_isTold_1 rfl (lv_at hl 1 rfl) ?_
  obtain ⟨o1, e_o1, hf⟩ := fh_b hf
  obtain ⟨r2, e_r2, hf⟩ := fh_b hf
  refine fh_callV (As := [.int a1]) (rest := []) S fT_good hE hI e_o1 rfl (c_Mo_isHeld e_r2) fy_Mo_isHeld fst_Mo_isHeld k_194 ⟨rfl, rfl⟩ ⟨Nat.le_of_ble_eq_true rfl, Nat.le_of_ble_eq_true rfl⟩ ⟨Nat.zero_le _, Nat.zero_le _⟩ rfl hl.1 rfl (Nat.le_of_ble_eq_true rfl) d_Mo_isTold_2 (fun H locs hI => ?_)
  refine lv_if_ne (tgt := 10) hx hb d_Mo_isTold_5 (by decide) (fun c_5 => ?_) (fun c_5 => ?_)
  · replace hf := fh_f c_5 hf
    refine lv_iconst (v := 1) hx hb d_Mo_isTold_10 (by decide) ?_
    refine lv_istore_n (lv' := [(2, .int 1), (0, va_rf (some o)), (1, .int a1)]) hx hb d_Mo_isTold_11 rfl hl (by decide) rfl (fun ls hl => ?_)
    refine lv_iconst (v := 0) hx hb d_Mo_isTold_12 (by decide) ?_
    refine lv_istore_n (lv' := [(3, .int 0), (2, .int 1), (0, va_rf (some o)), (1, .int a1)]) hx hb d_Mo_isTold_13 rfl hl (by decide) rfl (fun ls hl => ?_)
    exact L14 N a1 1 0 r2.2 _ _ _ (lv_sub hl [2, 3, 1, 0] rfl) hI hf
  · replace hf := fh_t c_5 hf
    refine lv_iconst (v := 0) hx hb d_Mo_isTold_8 (by decide) ?_
    obtain rfl := Option.some.inj hf
    exact fh_iret S hr hk (fh_nb (Or.inl rfl)) hAe hI d_Mo_isTold_9
theorem d_Mo_visit_0 : decode c0_Mo_visit 0 = .ok (.aload_n 0, 1) := by decide +kernel
theorem d_Mo_visit_1 : decode c0_Mo_visit 1 = .ok (.iload_n 1, 1) := by decide +kernel
theorem d_Mo_visit_2 : decode c0_Mo_visit 2 = .ok (.invokevirtual 204, 3) := by decide +kernel
theorem d_Mo_visit_5 : decode c0_Mo_visit 5 = .ok (.ifCond .eq 11, 3) := by decide +kernel
theorem d_Mo_visit_8 : decode c0_Mo_visit 8 = .ok (.aload_n 0, 1) := by decide +kernel
theorem d_Mo_visit_9 : decode c0_Mo_visit 9 = .ok (.iload_n 1, 1) := by decide +kernel
theorem d_Mo_visit_10 : decode c0_Mo_visit 10 = .ok (.invokevirtual 216, 3) := by decide +kernel
theorem d_Mo_visit_13 : decode c0_Mo_visit 13 = .ok (.ifCond .ne 4, 3) := by decide +kernel
theorem d_Mo_visit_16 : decode c0_Mo_visit 16 = .ok (.return_, 1) := by decide +kernel
theorem d_Mo_visit_17 : decode c0_Mo_visit 17 = .ok (.aload_n 0, 1) := by decide +kernel
theorem d_Mo_visit_18 : decode c0_Mo_visit 18 = .ok (.getfield 219, 3) := by decide +kernel
theorem d_Mo_visit_21 : decode c0_Mo_visit 21 = .ok (.aload_n 0, 1) := by decide +kernel
theorem d_Mo_visit_22 : decode c0_Mo_visit 22 = .ok (.getfield 222, 3) := by decide +kernel
theorem d_Mo_visit_25 : decode c0_Mo_visit 25 = .ok (.if_icmp .ne 60, 3) := by decide +kernel
theorem d_Mo_visit_28 : decode c0_Mo_visit 28 = .ok (.aload_n 0, 1) := by decide +kernel
theorem d_Mo_visit_29 : decode c0_Mo_visit 29 = .ok (.iconst 1, 1) := by decide +kernel
theorem d_Mo_visit_30 : decode c0_Mo_visit 30 = .ok (.putfield 225, 3) := by decide +kernel
theorem d_Mo_visit_33 : decode c0_Mo_visit 33 = .ok (.iconst 0, 1) := by decide +kernel
theorem d_Mo_visit_34 : decode c0_Mo_visit 34 = .ok (.istore_n 2, 1) := by decide +kernel
theorem d_Mo_visit_35 : decode c0_Mo_visit 35 = .ok (.iload_n 2, 1) := by decide +kernel
theorem d_Mo_visit_36 : decode c0_Mo_visit 36 = .ok (.bipush 6, 2) := by decide +kernel
theorem d_Mo_visit_38 : decode c0_Mo_visit 38 = .ok (.if_icmp .ge 21, 3) := by decide +kernel
theorem d_Mo_visit_41 : decode c0_Mo_visit 41 = .ok (.aload_n 0, 1) := by decide +kernel
theorem d_Mo_visit_42 : decode c0_Mo_visit 42 = .ok (.getfield 40, 3) := by decide +kernel
theorem d_Mo_visit_45 : decode c0_Mo_visit 45 = .ok (.iload_n 2, 1) := by decide +kernel
theorem d_Mo_visit_46 : decode c0_Mo_visit 46 = .ok (.aload_n 0, 1) := by decide +kernel
theorem d_Mo_visit_47 : decode c0_Mo_visit 47 = .ok (.getfield 33, 3) := by decide +kernel
theorem d_Mo_visit_50 : decode c0_Mo_visit 50 = .ok (.iload_n 2, 1) := by decide +kernel
theorem d_Mo_visit_51 : decode c0_Mo_visit 51 = .ok (.iaload, 1) := by decide +kernel
theorem d_Mo_visit_52 : decode c0_Mo_visit 52 = .ok (.iastore, 1) := by decide +kernel
theorem d_Mo_visit_53 : decode c0_Mo_visit 53 = .ok (.iinc 2 1, 3) := by decide +kernel
theorem d_Mo_visit_56 : decode c0_Mo_visit 56 = .ok (.goto (-21), 3) := by decide +kernel
theorem d_Mo_visit_59 : decode c0_Mo_visit 59 = .ok (.iload_n 1, 1) := by decide +kernel
theorem d_Mo_visit_60 : decode c0_Mo_visit 60 = .ok (.bipush 8, 2) := by decide +kernel
theorem d_Mo_visit_62 : decode c0_Mo_visit 62 = .ok (.if_icmp .ne 23, 3) := by decide +kernel
theorem d_Mo_visit_65 : decode c0_Mo_visit 65 = .ok (.aload_n 0, 1) := by decide +kernel
theorem d_Mo_visit_66 : decode c0_Mo_visit 66 = .ok (.getfield 40, 3) := by decide +kernel
theorem d_Mo_visit_69 : decode c0_Mo_visit 69 = .ok (.iconst 4, 1) := by decide +kernel
theorem d_Mo_visit_70 : decode c0_Mo_visit 70 = .ok (.aload_n 0, 1) := by decide +kernel
theorem d_Mo_visit_71 : decode c0_Mo_visit 71 = .ok (.getfield 188, 3) := by decide +kernel
theorem d_Mo_visit_74 : decode c0_Mo_visit 74 = .ok (.iastore, 1) := by decide +kernel
theorem d_Mo_visit_75 : decode c0_Mo_visit 75 = .ok (.aload_n 0, 1) := by decide +kernel
theorem d_Mo_visit_76 : decode c0_Mo_visit 76 = .ok (.getfield 40, 3) := by decide +kernel
theorem d_Mo_visit_79 : decode c0_Mo_visit 79 = .ok (.iconst 5, 1) := by decide +kernel
theorem d_Mo_visit_80 : decode c0_Mo_visit 80 = .ok (.aload_n 0, 1) := by decide +kernel
theorem d_Mo_visit_81 : decode c0_Mo_visit 81 = .ok (.getfield 191, 3) := by decide +kernel
theorem d_Mo_visit_84 : decode c0_Mo_visit 84 = .ok (.iastore, 1) := by decide +kernel
theorem d_Mo_visit_85 : decode c0_Mo_visit 85 = .ok (.aload_n 0, 1) := by decide +kernel
theorem d_Mo_visit_86 : decode c0_Mo_visit 86 = .ok (.dup, 1) := by decide +kernel
theorem d_Mo_visit_87 : decode c0_Mo_visit 87 = .ok (.getfield 219, 3) := by decide +kernel
theorem d_Mo_visit_90 : decode c0_Mo_visit 90 = .ok (.iconst 1, 1) := by decide +kernel
theorem d_Mo_visit_91 : decode c0_Mo_visit 91 = .ok (.iadd, 1) := by decide +kernel
theorem d_Mo_visit_92 : decode c0_Mo_visit 92 = .ok (.putfield 219, 3) := by decide +kernel
theorem d_Mo_visit_95 : decode c0_Mo_visit 95 = .ok (.return_, 1) := by decide +kernel
def b_Mo_visit_85 (K : Nat → ClassId) (N : Nat) (o : Nat)  (h : fh_H) : Option (fh_H) :=
  (fg_i h (some o) 6 17).bind fun x1 => (fp_v h (some o) 6 17 (.int (x1 + 1))).bind fun h2 => some h2
def b_Mo_visit_35 (K : Nat → ClassId) (N : Nat) (k35 : Int32 → Int32 → fh_H → Option (fh_H)) (o : Nat) (v1 : Int32) (v2 : Int32) (h : fh_H) : Option (fh_H) :=
  if 6 ≤ v2 then (if v1 = 8 then ((fg_a h (some o) 6 19).bind fun x1 => (fg_i h (some o) 6 14).bind fun x2 => (fs_i (K 0) h x1 4 x2).bind fun h3 => (fg_a h3 (some o) 6 19).bind fun x4 => (fg_i h3 (some o) 6 15).bind fun x5 => (fs_i (K 0) h3 x4 5 x5).bind fun h6 => b_Mo_visit_85 K N o h6) else (b_Mo_visit_85 K N o h)) else ((fg_a h (some o) 6 19).bind fun x7 => (fg_a h (some o) 6 13).bind fun x8 => (fa_i (K 0) h x8 v2).bind fun x9 => (fs_i (K 0) h x7 v2 x9).bind fun h10 => (some (v2 + 1)).bind fun x11 => k35 v1 x11 h10)
def l_Mo_visit_35 (K : Nat → ClassId) (N : Nat) (o : Nat) : Nat → Int32 → Int32 → fh_H → Option (fh_H)
  | 0, _, _, _ => none
  | n + 1, v1, v2, h => b_Mo_visit_35 K N (l_Mo_visit_35 K N o n) o v1 v2 h
def f_Mo_visit (K : Nat → ClassId) (N : Nat) (o : Nat) (a1 : Int32) (h0 : fh_H) : Option (fh_H) :=
  (fg_o h0 (some o) 6).bind fun o1 => (f_Mo_isOrdered K N o1 a1 h0).bind fun r2 => if r2.1 = 0 then (some r2.2) else ((fg_o r2.2 (some o) 6).bind fun o3 => (f_Mo_isTold K N o3 a1 r2.2).bind fun r4 => if r4.1 = 0 then (some r4.2) else ((fg_i r4.2 (some o) 6 17).bind fun x5 => (fg_i r4.2 (some o) 6 18).bind fun x6 => if x5 = x6 then ((fp_z r4.2 (some o) 6 20 1).bind fun h7 => l_Mo_visit_35 K N o N a1 0 h7) else (b_Mo_visit_85 K N o r4.2)))
set_option maxHeartbeats 4000000 in
set_option maxRecDepth 100000 in
theorem c_Mo_visit {l : Launch} {D : va_G} {K : Nat → ClassId} {t : Nat → Nat} {N : Nat} {o : Nat} {a1 : Int32} {h0 : fh_H} {res : fh_H} (hf : f_Mo_visit K N o a1 h0 = some res) : fC l D K t y_Mo_visit c0_Mo_visit 3 none rm_Mo_visit [.ref o, .int a1] h0 (none) res := by
  refine fh_body (by decide) (Nat.le_of_ble_eq_true rfl) ?_
  intro p e s m below meth c A ls S hr hk hnm hE hAe hI hl
  obtain ⟨hx, hb, hml, hown, hts⟩ := id S
  have hl : lv_has ls 3 [(0, va_rf (some o)), (1, .int a1)] := hl
  have B85 : ∀  (h : fh_H) (H : Heap) (locs : List Loc) (ls : Array Slot), lv_has ls 3 [(0, va_rf (some o))] → fh_I D classes A s.heap h H locs → b_Mo_visit_85 K N o  h = some res → W p l e rm_Mo_visit s m [.ref o, .int a1].toArray below meth c H locs 0 0 (MQ below (fh_Q D classes h0 s.heap.size (none) res) [.ref o, .int a1].toArray s 0 0 A) (F0 m 85 ls []) := by
    intro  h H locs ls hl hI hf
    unfold b_Mo_visit_85 at hf
    refine fh_aload_n S d_Mo_visit_85 rfl (lv_at hl 0 rfl) ?_
    refine lv_dup hx hb d_Mo_visit_86 fh_rfcat ?_
    obtain ⟨x1, e_x1, hf⟩ := fh_b hf
    refine fh_geti S hE.1 hI e_x1 (hc := rfl) (hin := in_6) (by decide) (hts _ k_197) d_Mo_visit_87 ?_
    refine lv_iconst (v := 1) hx hb d_Mo_visit_90 (by decide) ?_
    refine lv_iadd hx hb d_Mo_visit_91 ?_
    obtain ⟨h2, e_h2, hf⟩ := fh_b hf
    refine fh_putv S hE.1 hI e_h2 (hc := rfl) (hin := in_6) tok_6 nok_6 (by decide) (hts _ k_197) rfl rfl rfl d_Mo_visit_92 (fun H locs hI => ?_)
    obtain rfl := Option.some.inj hf
    exact fh_vret S hr hk hAe hI d_Mo_visit_95
  have L35 : ∀ (n35 : Nat) (v1 : Int32) (v2 : Int32) (h : fh_H) (H : Heap) (locs : List Loc) (ls : Array Slot), lv_has ls 3 [(0, va_rf (some o)), (1, .int v1), (2, .int v2)] → fh_I D classes A s.heap h H locs → l_Mo_visit_35 K N o n35 v1 v2 h = some res → W p l e rm_Mo_visit s m [.ref o, .int a1].toArray below meth c H locs 0 0 (MQ below (fh_Q D classes h0 s.heap.size (none) res) [.ref o, .int a1].toArray s 0 0 A) (F0 m 35 ls []) := by
    intro n35
    induction n35 with
    | zero =>
      intro v1 v2 h H locs ls hl hI hf
      exact fh_no hf
    | succ n35 ih35 =>
      intro v1 v2 h H locs ls hl hI hf
      have hf : b_Mo_visit_35 K N (l_Mo_visit_35 K N o n35) o v1 v2 h = some res := hf
      unfold b_Mo_visit_35 at hf
      refine lv_iload_n hx hb d_Mo_visit_35 rfl (lv_at hl 2 rfl) ?_
      refine lv_bipush (v := 6) hx hb d_Mo_visit_36 (by decide) ?_
      refine lv_icmp_ge (tgt := 59) hx hb d_Mo_visit_38 (by decide) (fun c_38 => ?_) (fun c_38 => ?_)
      · replace hf := fh_t c_38 hf
        refine lv_iload_n hx hb d_Mo_visit_59 rfl (lv_at hl 1 rfl) ?_
        refine lv_bipush (v := 8) hx hb d_Mo_visit_60 (by decide) ?_
        refine lv_icmp_ne (tgt := 85) hx hb d_Mo_visit_62 (by decide) (fun c_62 => ?_) (fun c_62 => ?_)
        · replace hf := fh_f c_62 hf
          exact B85 h _ _ _ (lv_sub hl [0] rfl) hI hf
        · replace hf := fh_t c_62 hf
          refine fh_aload_n S d_Mo_visit_65 rfl (lv_at hl 0 rfl) ?_
          obtain ⟨x1, e_x1, hf⟩ := fh_b hf
          refine fh_geta S hE.1 hI e_x1 (hc := rfl) (hin := in_6) (by decide) (hts _ k_199) d_Mo_visit_66 ?_
          refine lv_iconst (v := 4) hx hb d_Mo_visit_69 (by decide) ?_
          refine fh_aload_n S d_Mo_visit_70 rfl (lv_at hl 0 rfl) ?_
          obtain ⟨x2, e_x2, hf⟩ := fh_b hf
          refine fh_geti S hE.1 hI e_x2 (hc := rfl) (hin := in_6) (by decide) (hts _ k_189) d_Mo_visit_71 ?_
          obtain ⟨h3, e_h3, hf⟩ := fh_b hf
          refine fh_iast S hE.1 hI 0 rfl e_h3 d_Mo_visit_74 (fun H locs hI => ?_)
          refine fh_aload_n S d_Mo_visit_75 rfl (lv_at hl 0 rfl) ?_
          obtain ⟨x4, e_x4, hf⟩ := fh_b hf
          refine fh_geta S hE.1 hI e_x4 (hc := rfl) (hin := in_6) (by decide) (hts _ k_199) d_Mo_visit_76 ?_
          refine lv_iconst (v := 5) hx hb d_Mo_visit_79 (by decide) ?_
          refine fh_aload_n S d_Mo_visit_80 rfl (lv_at hl 0 rfl) ?_
          obtain ⟨x5, e_x5, hf⟩ := fh_b hf
          refine fh_geti S hE.1 hI e_x5 (hc := rfl) (hin := in_6) (by decide) (hts _ k_190) d_Mo_visit_81 ?_
          obtain ⟨h6, e_h6, hf⟩ := fh_b hf
          refine fh_iast S hE.1 hI 0 rfl e_h6 d_Mo_visit_84 (fun H locs hI => ?_)
          exact B85 h6 _ _ _ (lv_sub hl [0] rfl) hI hf
      · replace hf := fh_f c_38 hf
        refine fh_aload_n S d_Mo_visit_41 rfl (lv_at hl 0 rfl) ?_
        obtain ⟨x7, e_x7, hf⟩ := fh_b hf
        refine fh_geta S hE.1 hI e_x7 (hc := rfl) (hin := in_6) (by decide) (hts _ k_199) d_Mo_visit_42 ?_
        refine lv_iload_n hx hb d_Mo_visit_45 rfl (lv_at hl 2 rfl) ?_
        refine fh_aload_n S d_Mo_visit_46 rfl (lv_at hl 0 rfl) ?_
        obtain ⟨x8, e_x8, hf⟩ := fh_b hf
        refine fh_geta S hE.1 hI e_x8 (hc := rfl) (hin := in_6) (by decide) (hts _ k_178) d_Mo_visit_47 ?_
        refine lv_iload_n hx hb d_Mo_visit_50 rfl (lv_at hl 2 rfl) ?_
        obtain ⟨x9, e_x9, hf⟩ := fh_b hf
        refine fh_iald S hE.1 hI 0 rfl e_x9 d_Mo_visit_51 ?_
        obtain ⟨h10, e_h10, hf⟩ := fh_b hf
        refine fh_iast S hE.1 hI 0 rfl e_h10 d_Mo_visit_52 (fun H locs hI => ?_)
        obtain ⟨x11, e_x11, hf⟩ := fh_b hf
        refine lv_iinc (v := x11) (lv' := [(2, .int x11), (0, va_rf (some o)), (1, .int v1)]) hx hb d_Mo_visit_53 hl (k := 2) rfl (by rw [fh_qe e_x11]; rfl) (by decide) rfl (fun ls hl => ?_)
        refine lv_goto (tgt := 35) hx hb d_Mo_visit_56 (by decide) ?_
        exact ih35 v1 x11 h10 _ _ _ (lv_sub hl [1, 2, 0] rfl) hI hf
  unfold f_Mo_visit at hf
  refine fh_aload_n S d_Mo_visit_0 rfl (lv_at hl 0 rfl) ?_
  refine lv_iload_n hx hb d_Mo_visit_1 rfl (lv_at hl 1 rfl) ?_
  obtain ⟨o1, e_o1, hf⟩ := fh_b hf
  obtain ⟨r2, e_r2, hf⟩ := fh_b hf
  refine fh_callV (As := [.int a1]) (rest := []) S fT_good hE hI e_o1 rfl (c_Mo_isOrdered e_r2) fy_Mo_isOrdered fst_Mo_isOrdered k_193 ⟨rfl, rfl⟩ ⟨Nat.le_of_ble_eq_true rfl, Nat.le_of_ble_eq_true rfl⟩ ⟨Nat.zero_le _, Nat.zero_le _⟩ rfl hl.1 rfl (Nat.le_of_ble_eq_true rfl) d_Mo_visit_2 (fun H locs hI => ?_)
  refine lv_if_eq (tgt := 16) hx hb d_Mo_visit_5 (by decide) (fun c_5 => ?_) (fun c_5 => ?_)
  · replace hf := fh_t c_5 hf
    obtain rfl := Option.some.inj hf
    exact fh_vret S hr hk hAe hI d_Mo_visit_16
  · replace hf := fh_f c_5 hf
    refine fh_aload_n S d_Mo_visit_8 rfl (lv_at hl 0 rfl) ?_
    refine lv_iload_n hx hb d_Mo_visit_9 rfl (lv_at hl 1 rfl) ?_
    obtain ⟨o3, e_o3, hf⟩ := fh_b hf
    obtain ⟨r4, e_r4, hf⟩ := fh_b hf
    refine fh_callV (As := [.int a1]) (rest := []) S fT_good hE hI e_o3 rfl (c_Mo_isTold e_r4) fy_Mo_isTold fst_Mo_isTold k_196 ⟨rfl, rfl⟩ ⟨Nat.le_of_ble_eq_true rfl, Nat.le_of_ble_eq_true rfl⟩ ⟨Nat.zero_le _, Nat.zero_le _⟩ rfl hl.1 rfl (Nat.le_of_ble_eq_true rfl) d_Mo_visit_10 (fun H locs hI => ?_)
    refine lv_if_ne (tgt := 17) hx hb d_Mo_visit_13 (by decide) (fun c_13 => ?_) (fun c_13 => ?_)
    · replace hf := fh_f c_13 hf
      refine fh_aload_n S d_Mo_visit_17 rfl (lv_at hl 0 rfl) ?_
      obtain ⟨x5, e_x5, hf⟩ := fh_b hf
      refine fh_geti S hE.1 hI e_x5 (hc := rfl) (hin := in_6) (by decide) (hts _ k_197) d_Mo_visit_18 ?_
      refine fh_aload_n S d_Mo_visit_21 rfl (lv_at hl 0 rfl) ?_
      obtain ⟨x6, e_x6, hf⟩ := fh_b hf
      refine fh_geti S hE.1 hI e_x6 (hc := rfl) (hin := in_6) (by decide) (hts _ k_198) d_Mo_visit_22 ?_
      refine lv_icmp_ne (tgt := 85) hx hb d_Mo_visit_25 (by decide) (fun c_25 => ?_) (fun c_25 => ?_)
      · replace hf := fh_f c_25 hf
        exact B85 r4.2 _ _ _ (lv_sub hl [0] rfl) hI hf
      · replace hf := fh_t c_25 hf
        refine fh_aload_n S d_Mo_visit_28 rfl (lv_at hl 0 rfl) ?_
        refine lv_iconst (v := 1) hx hb d_Mo_visit_29 (by decide) ?_
        obtain ⟨h7, e_h7, hf⟩ := fh_b hf
        refine fh_putz S hE.1 hI e_h7 (hc := rfl) (hin := in_6) tok_6 nok_6 (by decide) (hts _ k_200) rfl rfl d_Mo_visit_30 (fun H locs hI => ?_)
        refine lv_iconst (v := 0) hx hb d_Mo_visit_33 (by decide) ?_
        refine lv_istore_n (lv' := [(2, .int 0), (0, va_rf (some o)), (1, .int a1)]) hx hb d_Mo_visit_34 rfl hl (by decide) rfl (fun ls hl => ?_)
        exact L35 N a1 0 h7 _ _ _ (lv_sub hl [1, 2, 0] rfl) hI hf
    · replace hf := fh_t c_13 hf
      obtain rfl := Option.some.inj hf
      exact fh_vret S hr hk hAe hI d_Mo_visit_16
theorem d_Mo_walkArea_0 : decode c0_Mo_walkArea 0 = .ok (.iload 4, 2) := by decide +kernel
theorem d_Mo_walkArea_2 : decode c0_Mo_walkArea 2 = .ok (.iconst 1, 1) := by decide +kernel
theorem d_Mo_walkArea_3 : decode c0_Mo_walkArea 3 = .ok (.iadd, 1) := by decide +kernel
theorem d_Mo_walkArea_4 : decode c0_Mo_walkArea 4 = .ok (.istore 5, 2) := by decide +kernel
theorem d_Mo_walkArea_6 : decode c0_Mo_walkArea 6 = .ok (.iload 5, 2) := by decide +kernel
theorem d_Mo_walkArea_8 : decode c0_Mo_walkArea 8 = .ok (.aload_n 0, 1) := by decide +kernel
theorem d_Mo_walkArea_9 : decode c0_Mo_walkArea 9 = .ok (.getfield 131, 3) := by decide +kernel
theorem d_Mo_walkArea_12 : decode c0_Mo_walkArea 12 = .ok (.if_icmp .ge 49, 3) := by decide +kernel
theorem d_Mo_walkArea_15 : decode c0_Mo_walkArea 15 = .ok (.iload 5, 2) := by decide +kernel
theorem d_Mo_walkArea_17 : decode c0_Mo_walkArea 17 = .ok (.iconst 1, 1) := by decide +kernel
theorem d_Mo_walkArea_18 : decode c0_Mo_walkArea 18 = .ok (.iadd, 1) := by decide +kernel
theorem d_Mo_walkArea_19 : decode c0_Mo_walkArea 19 = .ok (.istore 6, 2) := by decide +kernel
theorem d_Mo_walkArea_21 : decode c0_Mo_walkArea 21 = .ok (.iload 6, 2) := by decide +kernel
theorem d_Mo_walkArea_23 : decode c0_Mo_walkArea 23 = .ok (.aload_n 0, 1) := by decide +kernel
theorem d_Mo_walkArea_24 : decode c0_Mo_walkArea 24 = .ok (.getfield 131, 3) := by decide +kernel
theorem d_Mo_walkArea_27 : decode c0_Mo_walkArea 27 = .ok (.if_icmp .ge 28, 3) := by decide +kernel
theorem d_Mo_walkArea_30 : decode c0_Mo_walkArea 30 = .ok (.aload_n 0, 1) := by decide +kernel
theorem d_Mo_walkArea_31 : decode c0_Mo_walkArea 31 = .ok (.iload_n 1, 1) := by decide +kernel
theorem d_Mo_walkArea_32 : decode c0_Mo_walkArea 32 = .ok (.iload_n 2, 1) := by decide +kernel
theorem d_Mo_walkArea_33 : decode c0_Mo_walkArea 33 = .ok (.iload_n 3, 1) := by decide +kernel
theorem d_Mo_walkArea_34 : decode c0_Mo_walkArea 34 = .ok (.iload 4, 2) := by decide +kernel
theorem d_Mo_walkArea_36 : decode c0_Mo_walkArea 36 = .ok (.iload 5, 2) := by decide +kernel
theorem d_Mo_walkArea_38 : decode c0_Mo_walkArea 38 = .ok (.iload 6, 2) := by decide +kernel
theorem d_Mo_walkArea_40 : decode c0_Mo_walkArea 40 = .ok (.invokevirtual 198, 3) := by decide +kernel
theorem d_Mo_walkArea_43 : decode c0_Mo_walkArea 43 = .ok (.aload_n 0, 1) := by decide +kernel
theorem d_Mo_walkArea_44 : decode c0_Mo_walkArea 44 = .ok (.bipush 7, 2) := by decide +kernel
theorem d_Mo_walkArea_46 : decode c0_Mo_walkArea 46 = .ok (.invokevirtual 228, 3) := by decide +kernel
theorem d_Mo_walkArea_49 : decode c0_Mo_walkArea 49 = .ok (.iinc 6 1, 3) := by decide +kernel
theorem d_Mo_walkArea_52 : decode c0_Mo_walkArea 52 = .ok (.goto (-31), 3) := by decide +kernel
theorem d_Mo_walkArea_55 : decode c0_Mo_walkArea 55 = .ok (.iinc 5 1, 3) := by decide +kernel
theorem d_Mo_walkArea_58 : decode c0_Mo_walkArea 58 = .ok (.goto (-52), 3) := by decide +kernel
theorem d_Mo_walkArea_61 : decode c0_Mo_walkArea 61 = .ok (.return_, 1) := by decide +kernel
def b_Mo_walkArea_21 (K : Nat → ClassId) (N : Nat) (k6 : Int32 → Int32 → Int32 → Int32 → Int32 → fh_H → Option (fh_H)) (k21 : Int32 → Int32 → Int32 → Int32 → Int32 → Int32 → fh_H → Option (fh_H)) (o : Nat) (v1 : Int32) (v2 : Int32) (v3 : Int32) (v4 : Int32) (v5 : Int32) (v6 : Int32) (h : fh_H) : Option (fh_H) :=
  (fg_i h (some o) 6 0).bind fun x1 => if x1 ≤ v6 then ((some (v5 + 1)).bind fun x2 => k6 v1 v2 v3 v4 x2 h) else ((fg_o h (some o) 6).bind fun o3 => (f_Mo_setRow K N o3 v1 v2 v3 v4 v5 v6 h).bind fun r4 => (fg_o r4 (some o) 6).bind fun o5 => (f_Mo_visit K N o5 7 r4).bind fun r6 => (some (v6 + 1)).bind fun x7 => k21 v1 v2 v3 v4 v5 x7 r6)
def l_Mo_walkArea_21 (K : Nat → ClassId) (N : Nat) (k6 : Int32 → Int32 → Int32 → Int32 → Int32 → fh_H → Option (fh_H)) (o : Nat) : Nat → Int32 → Int32 → Int32 → Int32 → Int32 → Int32 → fh_H → Option (fh_H)
  | 0, _, _, _, _, _, _, _ => none
  | n + 1, v1, v2, v3, v4, v5, v6, h => b_Mo_walkArea_21 K N k6 (l_Mo_walkArea_21 K N k6 o n) o v1 v2 v3 v4 v5 v6 h
def b_Mo_walkArea_6 (K : Nat → ClassId) (N : Nat) (k6 : Int32 → Int32 → Int32 → Int32 → Int32 → fh_H → Option (fh_H)) (o : Nat) (v1 : Int32) (v2 : Int32) (v3 : Int32) (v4 : Int32) (v5 : Int32) (h : fh_H) : Option (fh_H) :=
  (fg_i h (some o) 6 0).bind fun x1 => if x1 ≤ v5 then (some h) else ((some (v5 + 1)).bind fun x2 => l_Mo_walkArea_21 K N k6 o N v1 v2 v3 v4 v5 x2 h)
def l_Mo_walkArea_6 (K : Nat → ClassId) (N : Nat) (o : Nat) : Nat → Int32 → Int32 → Int32 → Int32 → Int32 → fh_H → Option (fh_H)
  | 0, _, _, _, _, _, _ => none
  | n + 1, v1, v2, v3, v4, v5, h => b_Mo_walkArea_6 K N (l_Mo_walkArea_6 K N o n) o v1 v2 v3 v4 v5 h
def f_Mo_walkArea (K : Nat → ClassId) (N : Nat) (o : Nat) (a1 : Int32) (a2 : Int32) (a3 : Int32) (a4 : Int32) (h0 : fh_H) : Option (fh_H) :=
  (some (a4 + 1)).bind fun x1 => l_Mo_walkArea_6 K N o N a1 a2 a3 a4 x1 h0
set_option maxHeartbeats 4000000 in
set_option maxRecDepth 100000 in
theorem c_Mo_walkArea {l : Launch} {D : va_G} {K : Nat → ClassId} {t : Nat → Nat} {N : Nat} {o : Nat} {a1 : Int32} {a2 : Int32} {a3 : Int32} {a4 : Int32} {h0 : fh_H} {res : fh_H} (hf : f_Mo_walkArea K N o a1 a2 a3 a4 h0 = some res) : fC l D K t y_Mo_walkArea c0_Mo_walkArea 7 none rm_Mo_walkArea [.ref o, .int a1, .int a2, .int a3, .int a4] h0 (none) res := by
  refine fh_body (by decide) (Nat.le_of_ble_eq_true rfl) ?_
  intro p e s m below meth c A ls S hr hk hnm hE hAe hI hl
  obtain ⟨hx, hb, hml, hown, hts⟩ := id S
  have hl : lv_has ls 7 [(0, va_rf (some o)), (1, .int a1), (2, .int a2), (3, .int a3), (4, .int a4)] := hl
  have L6 : ∀ (n6 : Nat) (v1 : Int32) (v2 : Int32) (v3 : Int32) (v4 : Int32) (v5 : Int32) (h : fh_H) (H : Heap) (locs : List Loc) (ls : Array Slot), lv_has ls 7 [(0, va_rf (some o)), (1, .int v1), (2, .int v2), (3, .int v3), (4, .int v4), (5, .int v5)] → fh_I D classes A s.heap h H locs → l_Mo_walkArea_6 K N o n6 v1 v2 v3 v4 v5 h = some res → W p l e rm_Mo_walkArea s m [.ref o, .int a1, .int a2, .int a3, .int a4].toArray below meth c H locs 0 0 (MQ below (fh_Q D classes h0 s.heap.size (none) res) [.ref o, .int a1, .int a2, .int a3, .int a4].toArray s 0 0 A) (F0 m 6 ls []) := by
    intro n6
    induction n6 with
    | zero =>
      intro v1 v2 v3 v4 v5 h H locs ls hl hI hf
      exact fh_no hf
    | succ n6 ih6 =>
      have L21 : ∀ (n21 : Nat) (v1 : Int32) (v2 : Int32) (v3 : Int32) (v4 : Int32) (v5 : Int32) (v6 : Int32) (h : fh_H) (H : Heap) (locs : List Loc) (ls : Array Slot), lv_has ls 7 [(0, va_rf (some o)), (1, .int v1), (2, .int v2), (3, .int v3), (4, .int v4), (5, .int v5), (6, .int v6)] → fh_I D classes A s.heap h H locs → l_Mo_walkArea_21 K N (l_Mo_walkArea_6 K N o n6) o n21 v1 v2 v3 v4 v5 v6 h = some res → W p l e rm_Mo_walkArea s m [.ref o, .int a1, .int a2, .int a3, .int a4].toArray below meth c H locs 0 0 (MQ below (fh_Q D classes h0 s.heap.size (none) res) [.ref o, .int a1, .int a2, .int a3, .int a4].toArray s 0 0 A) (F0 m 21 ls []) := by
        intro n21
        induction n21 with
        | zero =>
          intro v1 v2 v3 v4 v5 v6 h H locs ls hl hI hf
          exact fh_no hf
        | succ n21 ih21 =>
          intro v1 v2 v3 v4 v5 v6 h H locs ls hl hI hf
          have hf : b_Mo_walkArea_21 K N (l_Mo_walkArea_6 K N o n6) (l_Mo_walkArea_21 K N (l_Mo_walkArea_6 K N o n6) o n21) o v1 v2 v3 v4 v5 v6 h = some res := hf
          unfold b_Mo_walkArea_21 at hf
          refine lv_iload hx hb d_Mo_walkArea_21 (lv_at hl 6 rfl) ?_
          refine fh_aload_n S d_Mo_walkArea_23 rfl (lv_at hl 0 rfl) ?_
          obtain ⟨x1, e_x1, hf⟩ := fh_b hf
          refine fh_geti S hE.1 hI e_x1 (hc := rfl) (hin := in_6) (by decide) (hts _ k_163) d_Mo_walkArea_24 ?_
          refine lv_icmp_ge (tgt := 55) hx hb d_Mo_walkArea_27 (by decide) (fun c_27 => ?_) (fun c_27 => ?_)
          · replace hf := fh_t c_27 hf
            obtain ⟨x2, e_x2, hf⟩ := fh_b hf
            refine lv_iinc (v := x2) (lv' := [(5, .int x2), (0, va_rf (some o)), (1, .int v1), (2, .int v2), (3, .int v3), (4, .int v4), (6, .int v6)]) hx hb d_Mo_walkArea_55 hl (k := 5) rfl (by rw [fh_qe e_x2]; rfl) (by decide) rfl (fun ls hl => ?_)
            refine lv_goto (tgt := 6) hx hb d_Mo_walkArea_58 (by decide) ?_
            exact ih6 v1 v2 v3 v4 x2 h _ _ _ (lv_sub hl [1, 2, 3, 4, 5, 0] rfl) hI hf
          · replace hf := fh_f c_27 hf
            refine fh_aload_n S d_Mo_walkArea_30 rfl (lv_at hl 0 rfl) ?_
            refine lv_iload_n hx hb d_Mo_walkArea_31 rfl (lv_at hl 1 rfl) ?_
            refine lv_iload_n hx hb d_Mo_walkArea_32 rfl (lv_at hl 2 rfl) ?_
            refine lv_iload_n hx hb d_Mo_walkArea_33 rfl (lv_at hl 3 rfl) ?_
            refine lv_iload hx hb d_Mo_walkArea_34 (lv_at hl 4 rfl) ?_
            refine lv_iload hx hb d_Mo_walkArea_36 (lv_at hl 5 rfl) ?_
            refine lv_iload hx hb d_Mo_walkArea_38 (lv_at hl 6 rfl) ?_
            obtain ⟨o3, e_o3, hf⟩ := fh_b hf
            obtain ⟨r4, e_r4, hf⟩ := fh_b hf
            refine fh_callV (As := [.int v1, .int v2, .int v3, .int v4, .int v5, .int v6]) (rest := []) S fT_good hE hI e_o3 rfl (c_Mo_setRow e_r4) fy_Mo_setRow fst_Mo_setRow k_184 ⟨rfl, rfl⟩ ⟨Nat.le_of_ble_eq_true rfl, Nat.le_of_ble_eq_true rfl⟩ ⟨Nat.zero_le _, Nat.zero_le _⟩ rfl hl.1 rfl (Nat.le_of_ble_eq_true rfl) d_Mo_walkArea_40 (fun H locs hI => ?_)
            refine fh_aload_n S d_Mo_walkArea_43 rfl (lv_at hl 0 rfl) ?_
            refine lv_bipush (v := 7) hx hb d_Mo_walkArea_44 (by decide) ?_
            obtain ⟨o5, e_o5, hf⟩ := fh_b hf
            obtain ⟨r6, e_r6, hf⟩ := fh_b hf
            refine fh_callV (As := [.int 7]) (rest := []) S fT_good hE hI e_o5 rfl (c_Mo_visit e_r6) fy_Mo_visit fst_Mo_visit k_201 ⟨rfl, rfl⟩ ⟨Nat.le_of_ble_eq_true rfl, Nat.le_of_ble_eq_true rfl⟩ ⟨Nat.zero_le _, Nat.zero_le _⟩ rfl hl.1 rfl (Nat.le_of_ble_eq_true rfl) d_Mo_walkArea_46 (fun H locs hI => ?_)
            obtain ⟨x7, e_x7, hf⟩ := fh_b hf
            refine lv_iinc (v := x7) (lv' := [(6, .int x7), (0, va_rf (some o)), (1, .int v1), (2, .int v2), (3, .int v3), (4, .int v4), (5, .int v5)]) hx hb d_Mo_walkArea_49 hl (k := 6) rfl (by rw [fh_qe e_x7]; rfl) (by decide) rfl (fun ls hl => ?_)
            refine lv_goto (tgt := 21) hx hb d_Mo_walkArea_52 (by decide) ?_
            exact ih21 v1 v2 v3 v4 v5 x7 r6 _ _ _ (lv_sub hl [1, 2, 3, 4, 5, 6, 0] rfl) hI hf
      intro v1 v2 v3 v4 v5 h H locs ls hl hI hf
      have hf : b_Mo_walkArea_6 K N (l_Mo_walkArea_6 K N o n6) o v1 v2 v3 v4 v5 h = some res := hf
      unfold b_Mo_walkArea_6 at hf
      refine lv_iload hx hb d_Mo_walkArea_6 (lv_at hl 5 rfl) ?_
      refine fh_aload_n S d_Mo_walkArea_8 rfl (lv_at hl 0 rfl) ?_
      obtain ⟨x1, e_x1, hf⟩ := fh_b hf
      refine fh_geti S hE.1 hI e_x1 (hc := rfl) (hin := in_6) (by decide) (hts _ k_163) d_Mo_walkArea_9 ?_
      refine lv_icmp_ge (tgt := 61) hx hb d_Mo_walkArea_12 (by decide) (fun c_12 => ?_) (fun c_12 => ?_)
      · replace hf := fh_t c_12 hf
        obtain rfl := Option.some.inj hf
        exact fh_vret S hr hk hAe hI d_Mo_walkArea_61
      · replace hf := fh_f c_12 hf
        refine lv_iload hx hb d_Mo_walkArea_15 (lv_at hl 5 rfl) ?_
        refine lv_iconst (v := 1) hx hb d_Mo_walkArea_17 (by decide) ?_
        refine lv_iadd hx hb d_Mo_walkArea_18 ?_
        obtain ⟨x2, e_x2, hf⟩ := fh_b hf
        refine fh_topi e_x2 ?_
        refine lv_istore (lv' := [(6, .int x2), (0, va_rf (some o)), (1, .int v1), (2, .int v2), (3, .int v3), (4, .int v4), (5, .int v5)]) hx hb d_Mo_walkArea_19 hl (by decide) rfl (fun ls hl => ?_)
        exact L21 N v1 v2 v3 v4 v5 x2 h _ _ _ (lv_sub hl [1, 2, 3, 4, 5, 6, 0] rfl) hI hf
  unfold f_Mo_walkArea at hf
  refine lv_iload hx hb d_Mo_walkArea_0 (lv_at hl 4 rfl) ?_
  refine lv_iconst (v := 1) hx hb d_Mo_walkArea_2 (by decide) ?_
  refine lv_iadd hx hb d_Mo_walkArea_3 ?_
  obtain ⟨x1, e_x1, hf⟩ := fh_b hf
  refine fh_topi e_x1 ?_
  refine lv_istore (lv' := [(5, .int x1), (0, va_rf (some o)), (1, .int a1), (2, .int a2), (3, .int a3), (4, .int a4)]) hx hb d_Mo_walkArea_4 hl (by decide) rfl (fun ls hl => ?_)
  exact L6 N a1 a2 a3 a4 x1 h0 _ _ _ (lv_sub hl [1, 2, 3, 4, 5, 0] rfl) hI hf
theorem d_Mo_walkMore_0 : decode c0_Mo_walkMore 0 = .ok (.iconst 0, 1) := by decide +kernel
theorem d_Mo_walkMore_1 : decode c0_Mo_walkMore 1 = .ok (.istore 5, 2) := by decide +kernel
theorem d_Mo_walkMore_3 : decode c0_Mo_walkMore 3 = .ok (.iload 5, 2) := by decide +kernel
theorem d_Mo_walkMore_5 : decode c0_Mo_walkMore 5 = .ok (.aload_n 0, 1) := by decide +kernel
theorem d_Mo_walkMore_6 : decode c0_Mo_walkMore 6 = .ok (.getfield 131, 3) := by decide +kernel
theorem d_Mo_walkMore_9 : decode c0_Mo_walkMore 9 = .ok (.if_icmp .ge 51, 3) := by decide +kernel
theorem d_Mo_walkMore_12 : decode c0_Mo_walkMore 12 = .ok (.iload_n 1, 1) := by decide +kernel
theorem d_Mo_walkMore_13 : decode c0_Mo_walkMore 13 = .ok (.bipush 7, 2) := by decide +kernel
theorem d_Mo_walkMore_15 : decode c0_Mo_walkMore 15 = .ok (.if_icmp .eq 23, 3) := by decide +kernel
theorem d_Mo_walkMore_18 : decode c0_Mo_walkMore 18 = .ok (.aload_n 0, 1) := by decide +kernel
theorem d_Mo_walkMore_19 : decode c0_Mo_walkMore 19 = .ok (.iload_n 2, 1) := by decide +kernel
theorem d_Mo_walkMore_20 : decode c0_Mo_walkMore 20 = .ok (.iload_n 3, 1) := by decide +kernel
theorem d_Mo_walkMore_21 : decode c0_Mo_walkMore 21 = .ok (.iload 4, 2) := by decide +kernel
theorem d_Mo_walkMore_23 : decode c0_Mo_walkMore 23 = .ok (.iload 5, 2) := by decide +kernel
theorem d_Mo_walkMore_25 : decode c0_Mo_walkMore 25 = .ok (.iconst 0, 1) := by decide +kernel
theorem d_Mo_walkMore_26 : decode c0_Mo_walkMore 26 = .ok (.iconst 0, 1) := by decide +kernel
theorem d_Mo_walkMore_27 : decode c0_Mo_walkMore 27 = .ok (.invokevirtual 198, 3) := by decide +kernel
theorem d_Mo_walkMore_30 : decode c0_Mo_walkMore 30 = .ok (.aload_n 0, 1) := by decide +kernel
theorem d_Mo_walkMore_31 : decode c0_Mo_walkMore 31 = .ok (.iload_n 1, 1) := by decide +kernel
theorem d_Mo_walkMore_32 : decode c0_Mo_walkMore 32 = .ok (.invokevirtual 228, 3) := by decide +kernel
theorem d_Mo_walkMore_35 : decode c0_Mo_walkMore 35 = .ok (.goto 19, 3) := by decide +kernel
theorem d_Mo_walkMore_38 : decode c0_Mo_walkMore 38 = .ok (.iload_n 3, 1) := by decide +kernel
theorem d_Mo_walkMore_39 : decode c0_Mo_walkMore 39 = .ok (.iload 4, 2) := by decide +kernel
theorem d_Mo_walkMore_41 : decode c0_Mo_walkMore 41 = .ok (.if_icmp .ge 13, 3) := by decide +kernel
theorem d_Mo_walkMore_44 : decode c0_Mo_walkMore 44 = .ok (.aload_n 0, 1) := by decide +kernel
theorem d_Mo_walkMore_45 : decode c0_Mo_walkMore 45 = .ok (.iload_n 2, 1) := by decide +kernel
theorem d_Mo_walkMore_46 : decode c0_Mo_walkMore 46 = .ok (.iload_n 3, 1) := by decide +kernel
theorem d_Mo_walkMore_47 : decode c0_Mo_walkMore 47 = .ok (.iload 4, 2) := by decide +kernel
theorem d_Mo_walkMore_49 : decode c0_Mo_walkMore 49 = .ok (.iload 5, 2) := by decide +kernel
theorem d_Mo_walkMore_51 : decode c0_Mo_walkMore 51 = .ok (.invokevirtual 237, 3) := by decide +kernel
theorem d_Mo_walkMore_54 : decode c0_Mo_walkMore 54 = .ok (.iinc 5 1, 3) := by decide +kernel
theorem d_Mo_walkMore_57 : decode c0_Mo_walkMore 57 = .ok (.goto (-54), 3) := by decide +kernel
theorem d_Mo_walkMore_60 : decode c0_Mo_walkMore 60 = .ok (.return_, 1) := by decide +kernel
def b_Mo_walkMore_54 (K : Nat → ClassId) (N : Nat) (k3 : Int32 → Int32 → Int32 → Int32 → Int32 → fh_H → Option (fh_H)) (o : Nat) (v1 : Int32) (v2 : Int32) (v3 : Int32) (v4 : Int32) (v5 : Int32) (h : fh_H) : Option (fh_H) :=
  (some (v5 + 1)).bind fun x1 => k3 v1 v2 v3 v4 x1 h
def b_Mo_walkMore_3 (K : Nat → ClassId) (N : Nat) (k3 : Int32 → Int32 → Int32 → Int32 → Int32 → fh_H → Option (fh_H)) (o : Nat) (v1 : Int32) (v2 : Int32) (v3 : Int32) (v4 : Int32) (v5 : Int32) (h : fh_H) : Option (fh_H) :=
  (fg_i h (some o) 6 0).bind fun x1 => if x1 ≤ v5 then (some h) else (if v1 = 7 then (if v4 ≤ v3 then (b_Mo_walkMore_54 K N k3 o v1 v2 v3 v4 v5 h) else ((fg_o h (some o) 6).bind fun o2 => (f_Mo_walkArea K N o2 v2 v3 v4 v5 h).bind fun r3 => b_Mo_walkMore_54 K N k3 o v1 v2 v3 v4 v5 r3)) else ((fg_o h (some o) 6).bind fun o4 => (f_Mo_setRow K N o4 v2 v3 v4 v5 0 0 h).bind fun r5 => (fg_o r5 (some o) 6).bind fun o6 => (f_Mo_visit K N o6 v1 r5).bind fun r7 => b_Mo_walkMore_54 K N k3 o v1 v2 v3 v4 v5 r7))
def l_Mo_walkMore_3 (K : Nat → ClassId) (N : Nat) (o : Nat) : Nat → Int32 → Int32 → Int32 → Int32 → Int32 → fh_H → Option (fh_H)
  | 0, _, _, _, _, _, _ => none
  | n + 1, v1, v2, v3, v4, v5, h => b_Mo_walkMore_3 K N (l_Mo_walkMore_3 K N o n) o v1 v2 v3 v4 v5 h
def f_Mo_walkMore (K : Nat → ClassId) (N : Nat) (o : Nat) (a1 : Int32) (a2 : Int32) (a3 : Int32) (a4 : Int32) (h0 : fh_H) : Option (fh_H) :=
  l_Mo_walkMore_3 K N o N a1 a2 a3 a4 0 h0
set_option maxHeartbeats 4000000 in
set_option maxRecDepth 100000 in
theorem c_Mo_walkMore {l : Launch} {D : va_G} {K : Nat → ClassId} {t : Nat → Nat} {N : Nat} {o : Nat} {a1 : Int32} {a2 : Int32} {a3 : Int32} {a4 : Int32} {h0 : fh_H} {res : fh_H} (hf : f_Mo_walkMore K N o a1 a2 a3 a4 h0 = some res) : fC l D K t y_Mo_walkMore c0_Mo_walkMore 6 none rm_Mo_walkMore [.ref o, .int a1, .int a2, .int a3, .int a4] h0 (none) res := by
  refine fh_body (by decide) (Nat.le_of_ble_eq_true rfl) ?_
  intro p e s m below meth c A ls S hr hk hnm hE hAe hI hl
  obtain ⟨hx, hb, hml, hown, hts⟩ := id S
  have hl : lv_has ls 6 [(0, va_rf (some o)), (1, .int a1), (2, .int a2), (3, .int a3), (4, .int a4)] := hl
  have L3 : ∀ (n3 : Nat) (v1 : Int32) (v2 : Int32) (v3 : Int32) (v4 : Int32) (v5 : Int32) (h : fh_H) (H : Heap) (locs : List Loc) (ls : Array Slot), lv_has ls 6 [(0, va_rf (some o)), (1, .int v1), (2, .int v2), (3, .int v3), (4, .int v4), (5, .int v5)] → fh_I D classes A s.heap h H locs → l_Mo_walkMore_3 K N o n3 v1 v2 v3 v4 v5 h = some res → W p l e rm_Mo_walkMore s m [.ref o, .int a1, .int a2, .int a3, .int a4].toArray below meth c H locs 0 0 (MQ below (fh_Q D classes h0 s.heap.size (none) res) [.ref o, .int a1, .int a2, .int a3, .int a4].toArray s 0 0 A) (F0 m 3 ls []) := by
    intro n3
    induction n3 with
    | zero =>
      intro v1 v2 v3 v4 v5 h H locs ls hl hI hf
      exact fh_no hf
    | succ n3 ih3 =>
      have B54 : ∀ (v1 : Int32) (v2 : Int32) (v3 : Int32) (v4 : Int32) (v5 : Int32) (h : fh_H) (H : Heap) (locs : List Loc) (ls : Array Slot), lv_has ls 6 [(0, va_rf (some o)), (1, .int v1), (2, .int v2), (3, .int v3), (4, .int v4), (5, .int v5)] → fh_I D classes A s.heap h H locs → b_Mo_walkMore_54 K N (l_Mo_walkMore_3 K N o n3) o v1 v2 v3 v4 v5 h = some res → W p l e rm_Mo_walkMore s m [.ref o, .int a1, .int a2, .int a3, .int a4].toArray below meth c H locs 0 0 (MQ below (fh_Q D classes h0 s.heap.size (none) res) [.ref o, .int a1, .int a2, .int a3, .int a4].toArray s 0 0 A) (F0 m 54 ls []) := by
        intro v1 v2 v3 v4 v5 h H locs ls hl hI hf
        unfold b_Mo_walkMore_54 at hf
        obtain ⟨x1, e_x1, hf⟩ := fh_b hf
        refine lv_iinc (v := x1) (lv' := [(5, .int x1), (0, va_rf (some o)), (1, .int v1), (2, .int v2), (3, .int v3), (4, .int v4)]) hx hb d_Mo_walkMore_54 hl (k := 5) rfl (by rw [fh_qe e_x1]; rfl) (by decide) rfl (fun ls hl => ?_)
        refine lv_goto (tgt := 3) hx hb d_Mo_walkMore_57 (by decide) ?_
        exact ih3 v1 v2 v3 v4 x1 h _ _ _ (lv_sub hl [1, 2, 3, 4, 5, 0] rfl) hI hf
      intro v1 v2 v3 v4 v5 h H locs ls hl hI hf
      have hf : b_Mo_walkMore_3 K N (l_Mo_walkMore_3 K N o n3) o v1 v2 v3 v4 v5 h = some res := hf
      unfold b_Mo_walkMore_3 at hf
      refine lv_iload hx hb d_Mo_walkMore_3 (lv_at hl 5 rfl) ?_
      refine fh_aload_n S d_Mo_walkMore_5 rfl (lv_at hl 0 rfl) ?_
      obtain ⟨x1, e_x1, hf⟩ := fh_b hf
      refine fh_geti S hE.1 hI e_x1 (hc := rfl) (hin := in_6) (by decide) (hts _ k_163) d_Mo_walkMore_6 ?_
      refine lv_icmp_ge (tgt := 60) hx hb d_Mo_walkMore_9 (by decide) (fun c_9 => ?_) (fun c_9 => ?_)
      · replace hf := fh_t c_9 hf
        obtain rfl := Option.some.inj hf
        exact fh_vret S hr hk hAe hI d_Mo_walkMore_60
      · replace hf := fh_f c_9 hf
        refine lv_iload_n hx hb d_Mo_walkMore_12 rfl (lv_at hl 1 rfl) ?_
        refine lv_bipush (v := 7) hx hb d_Mo_walkMore_13 (by decide) ?_
        refine lv_icmp_eq (tgt := 38) hx hb d_Mo_walkMore_15 (by decide) (fun c_15 => ?_) (fun c_15 => ?_)
        · replace hf := fh_t c_15 hf
          refine lv_iload_n hx hb d_Mo_walkMore_38 rfl (lv_at hl 3 rfl) ?_
          refine lv_iload hx hb d_Mo_walkMore_39 (lv_at hl 4 rfl) ?_
          refine lv_icmp_ge (tgt := 54) hx hb d_Mo_walkMore_41 (by decide) (fun c_41 => ?_) (fun c_41 => ?_)
          · replace hf := fh_t c_41 hf
            exact B54 v1 v2 v3 v4 v5 h _ _ _ (lv_sub hl [0, 1, 2, 3, 4, 5] rfl) hI hf
          · replace hf := fh_f c_41 hf
            refine fh_aload_n S d_Mo_walkMore_44 rfl (lv_at hl 0 rfl) ?_
            refine lv_iload_n hx hb d_Mo_walkMore_45 rfl (lv_at hl 2 rfl) ?_
            refine lv_iload_n hx hb d_Mo_walkMore_46 rfl (lv_at hl 3 rfl) ?_
            refine lv_iload hx hb d_Mo_walkMore_47 (lv_at hl 4 rfl) ?_
            refine lv_iload hx hb d_Mo_walkMore_49 (lv_at hl 5 rfl) ?_
            obtain ⟨o2, e_o2, hf⟩ := fh_b hf
            obtain ⟨r3, e_r3, hf⟩ := fh_b hf
            refine fh_callV (As := [.int v2, .int v3, .int v4, .int v5]) (rest := []) S fT_good hE hI e_o2 rfl (c_Mo_walkArea e_r3) fy_Mo_walkArea fst_Mo_walkArea k_202 ⟨rfl, rfl⟩ ⟨Nat.le_of_ble_eq_true rfl, Nat.le_of_ble_eq_true rfl⟩ ⟨Nat.zero_le _, Nat.zero_le _⟩ rfl hl.1 rfl (Nat.le_of_ble_eq_true rfl) d_Mo_walkMore_51 (fun H locs hI => ?_)
            exact B54 v1 v2 v3 v4 v5 r3 _ _ _ (lv_sub hl [0, 1, 2, 3, 4, 5] rfl) hI hf
        · replace hf := fh_f c_15 hf
          refine fh_aload_n S d_Mo_walkMore_18 rfl (lv_at hl 0 rfl) ?_
          refine lv_iload_n hx hb d_Mo_walkMore_19 rfl (lv_at hl 2 rfl) ?_
          refine lv_iload_n hx hb d_Mo_walkMore_20 rfl (lv_at hl 3 rfl) ?_
          refine lv_iload hx hb d_Mo_walkMore_21 (lv_at hl 4 rfl) ?_
          refine lv_iload hx hb d_Mo_walkMore_23 (lv_at hl 5 rfl) ?_
          refine lv_iconst (v := 0) hx hb d_Mo_walkMore_25 (by decide) ?_
          refine lv_iconst (v := 0) hx hb d_Mo_walkMore_26 (by decide) ?_
          obtain ⟨o4, e_o4, hf⟩ := fh_b hf
          obtain ⟨r5, e_r5, hf⟩ := fh_b hf
          refine fh_callV (As := [.int v2, .int v3, .int v4, .int v5, .int 0, .int 0]) (rest := []) S fT_good hE hI e_o4 rfl (c_Mo_setRow e_r5) fy_Mo_setRow fst_Mo_setRow k_184 ⟨rfl, rfl⟩ ⟨Nat.le_of_ble_eq_true rfl, Nat.le_of_ble_eq_true rfl⟩ ⟨Nat.zero_le _, Nat.zero_le _⟩ rfl hl.1 rfl (Nat.le_of_ble_eq_true rfl) d_Mo_walkMore_27 (fun H locs hI => ?_)
          refine fh_aload_n S d_Mo_walkMore_30 rfl (lv_at hl 0 rfl) ?_
          refine lv_iload_n hx hb d_Mo_walkMore_31 rfl (lv_at hl 1 rfl) ?_
          obtain ⟨o6, e_o6, hf⟩ := fh_b hf
          obtain ⟨r7, e_r7, hf⟩ := fh_b hf
          refine fh_callV (As := [.int v1]) (rest := []) S fT_good hE hI e_o6 rfl (c_Mo_visit e_r7) fy_Mo_visit fst_Mo_visit k_201 ⟨rfl, rfl⟩ ⟨Nat.le_of_ble_eq_true rfl, Nat.le_of_ble_eq_true rfl⟩ ⟨Nat.zero_le _, Nat.zero_le _⟩ rfl hl.1 rfl (Nat.le_of_ble_eq_true rfl) d_Mo_walkMore_32 (fun H locs hI => ?_)
          refine lv_goto (tgt := 54) hx hb d_Mo_walkMore_35 (by decide) ?_
          exact B54 v1 v2 v3 v4 v5 r7 _ _ _ (lv_sub hl [0, 1, 2, 3, 4, 5] rfl) hI hf
  unfold f_Mo_walkMore at hf
  refine lv_iconst (v := 0) hx hb d_Mo_walkMore_0 (by decide) ?_
  refine lv_istore (lv' := [(5, .int 0), (0, va_rf (some o)), (1, .int a1), (2, .int a2), (3, .int a3), (4, .int a4)]) hx hb d_Mo_walkMore_1 hl (by decide) rfl (fun ls hl => ?_)
  exact L3 N a1 a2 a3 a4 0 h0 _ _ _ (lv_sub hl [1, 2, 3, 4, 5, 0] rfl) hI hf
theorem d_Mo_walkThird_0 : decode c0_Mo_walkThird 0 = .ok (.iconst 0, 1) := by decide +kernel
theorem d_Mo_walkThird_1 : decode c0_Mo_walkThird 1 = .ok (.istore 4, 2) := by decide +kernel
theorem d_Mo_walkThird_3 : decode c0_Mo_walkThird 3 = .ok (.iload 4, 2) := by decide +kernel
theorem d_Mo_walkThird_5 : decode c0_Mo_walkThird 5 = .ok (.aload_n 0, 1) := by decide +kernel
theorem d_Mo_walkThird_6 : decode c0_Mo_walkThird 6 = .ok (.getfield 131, 3) := by decide +kernel
theorem d_Mo_walkThird_9 : decode c0_Mo_walkThird 9 = .ok (.if_icmp .ge 45, 3) := by decide +kernel
theorem d_Mo_walkThird_12 : decode c0_Mo_walkThird 12 = .ok (.iload_n 1, 1) := by decide +kernel
theorem d_Mo_walkThird_13 : decode c0_Mo_walkThird 13 = .ok (.invokestatic 201, 3) := by decide +kernel
theorem d_Mo_walkThird_16 : decode c0_Mo_walkThird 16 = .ok (.iconst 3, 1) := by decide +kernel
theorem d_Mo_walkThird_17 : decode c0_Mo_walkThird 17 = .ok (.if_icmp .ne 22, 3) := by decide +kernel
theorem d_Mo_walkThird_20 : decode c0_Mo_walkThird 20 = .ok (.aload_n 0, 1) := by decide +kernel
theorem d_Mo_walkThird_21 : decode c0_Mo_walkThird 21 = .ok (.iload_n 2, 1) := by decide +kernel
theorem d_Mo_walkThird_22 : decode c0_Mo_walkThird 22 = .ok (.iload_n 3, 1) := by decide +kernel
theorem d_Mo_walkThird_23 : decode c0_Mo_walkThird 23 = .ok (.iload 4, 2) := by decide +kernel
theorem d_Mo_walkThird_25 : decode c0_Mo_walkThird 25 = .ok (.iconst 0, 1) := by decide +kernel
theorem d_Mo_walkThird_26 : decode c0_Mo_walkThird 26 = .ok (.iconst 0, 1) := by decide +kernel
theorem d_Mo_walkThird_27 : decode c0_Mo_walkThird 27 = .ok (.iconst 0, 1) := by decide +kernel
theorem d_Mo_walkThird_28 : decode c0_Mo_walkThird 28 = .ok (.invokevirtual 198, 3) := by decide +kernel
theorem d_Mo_walkThird_31 : decode c0_Mo_walkThird 31 = .ok (.aload_n 0, 1) := by decide +kernel
theorem d_Mo_walkThird_32 : decode c0_Mo_walkThird 32 = .ok (.iload_n 1, 1) := by decide +kernel
theorem d_Mo_walkThird_33 : decode c0_Mo_walkThird 33 = .ok (.invokevirtual 228, 3) := by decide +kernel
theorem d_Mo_walkThird_36 : decode c0_Mo_walkThird 36 = .ok (.goto 12, 3) := by decide +kernel
theorem d_Mo_walkThird_39 : decode c0_Mo_walkThird 39 = .ok (.aload_n 0, 1) := by decide +kernel
theorem d_Mo_walkThird_40 : decode c0_Mo_walkThird 40 = .ok (.iload_n 1, 1) := by decide +kernel
theorem d_Mo_walkThird_41 : decode c0_Mo_walkThird 41 = .ok (.iload_n 2, 1) := by decide +kernel
theorem d_Mo_walkThird_42 : decode c0_Mo_walkThird 42 = .ok (.iload_n 3, 1) := by decide +kernel
theorem d_Mo_walkThird_43 : decode c0_Mo_walkThird 43 = .ok (.iload 4, 2) := by decide +kernel
theorem d_Mo_walkThird_45 : decode c0_Mo_walkThird 45 = .ok (.invokevirtual 234, 3) := by decide +kernel
theorem d_Mo_walkThird_48 : decode c0_Mo_walkThird 48 = .ok (.iinc 4 1, 3) := by decide +kernel
theorem d_Mo_walkThird_51 : decode c0_Mo_walkThird 51 = .ok (.goto (-48), 3) := by decide +kernel
theorem d_Mo_walkThird_54 : decode c0_Mo_walkThird 54 = .ok (.return_, 1) := by decide +kernel
def b_Mo_walkThird_48 (K : Nat → ClassId) (N : Nat) (k3 : Int32 → Int32 → Int32 → Int32 → fh_H → Option (fh_H)) (o : Nat) (v1 : Int32) (v2 : Int32) (v3 : Int32) (v4 : Int32) (h : fh_H) : Option (fh_H) :=
  (some (v4 + 1)).bind fun x1 => k3 v1 v2 v3 x1 h
def b_Mo_walkThird_3 (K : Nat → ClassId) (N : Nat) (k3 : Int32 → Int32 → Int32 → Int32 → fh_H → Option (fh_H)) (o : Nat) (v1 : Int32) (v2 : Int32) (v3 : Int32) (v4 : Int32) (h : fh_H) : Option (fh_H) :=
  (fg_i h (some o) 6 0).bind fun x1 => if x1 ≤ v4 then (some h) else ((f_Mo_size K N v1 h).bind fun r2 => if r2.1 = 3 then ((fg_o r2.2 (some o) 6).bind fun o5 => (f_Mo_setRow K N o5 v2 v3 v4 0 0 0 r2.2).bind fun r6 => (fg_o r6 (some o) 6).bind fun o7 => (f_Mo_visit K N o7 v1 r6).bind fun r8 => b_Mo_walkThird_48 K N k3 o v1 v2 v3 v4 r8) else ((fg_o r2.2 (some o) 6).bind fun o3 => (f_Mo_walkMore K N o3 v1 v2 v3 v4 r2.2).bind fun r4 => b_Mo_walkThird_48 K N k3 o v1 v2 v3 v4 r4))
def l_Mo_walkThird_3 (K : Nat → ClassId) (N : Nat) (o : Nat) : Nat → Int32 → Int32 → Int32 → Int32 → fh_H → Option (fh_H)
  | 0, _, _, _, _, _ => none
  | n + 1, v1, v2, v3, v4, h => b_Mo_walkThird_3 K N (l_Mo_walkThird_3 K N o n) o v1 v2 v3 v4 h
def f_Mo_walkThird (K : Nat → ClassId) (N : Nat) (o : Nat) (a1 : Int32) (a2 : Int32) (a3 : Int32) (h0 : fh_H) : Option (fh_H) :=
  l_Mo_walkThird_3 K N o N a1 a2 a3 0 h0
set_option maxHeartbeats 4000000 in
set_option maxRecDepth 100000 in
theorem c_Mo_walkThird {l : Launch} {D : va_G} {K : Nat → ClassId} {t : Nat → Nat} {N : Nat} {o : Nat} {a1 : Int32} {a2 : Int32} {a3 : Int32} {h0 : fh_H} {res : fh_H} (hf : f_Mo_walkThird K N o a1 a2 a3 h0 = some res) : fC l D K t y_Mo_walkThird c0_Mo_walkThird 5 none rm_Mo_walkThird [.ref o, .int a1, .int a2, .int a3] h0 (none) res := by
  refine fh_body (by decide) (Nat.le_of_ble_eq_true rfl) ?_
  intro p e s m below meth c A ls S hr hk hnm hE hAe hI hl
  obtain ⟨hx, hb, hml, hown, hts⟩ := id S
  have hl : lv_has ls 5 [(0, va_rf (some o)), (1, .int a1), (2, .int a2), (3, .int a3)] := hl
  have L3 : ∀ (n3 : Nat) (v1 : Int32) (v2 : Int32) (v3 : Int32) (v4 : Int32) (h : fh_H) (H : Heap) (locs : List Loc) (ls : Array Slot), lv_has ls 5 [(0, va_rf (some o)), (1, .int v1), (2, .int v2), (3, .int v3), (4, .int v4)] → fh_I D classes A s.heap h H locs → l_Mo_walkThird_3 K N o n3 v1 v2 v3 v4 h = some res → W p l e rm_Mo_walkThird s m [.ref o, .int a1, .int a2, .int a3].toArray below meth c H locs 0 0 (MQ below (fh_Q D classes h0 s.heap.size (none) res) [.ref o, .int a1, .int a2, .int a3].toArray s 0 0 A) (F0 m 3 ls []) := by
    intro n3
    induction n3 with
    | zero =>
      intro v1 v2 v3 v4 h H locs ls hl hI hf
      exact fh_no hf
    | succ n3 ih3 =>
      have B48 : ∀ (v1 : Int32) (v2 : Int32) (v3 : Int32) (v4 : Int32) (h : fh_H) (H : Heap) (locs : List Loc) (ls : Array Slot), lv_has ls 5 [(0, va_rf (some o)), (1, .int v1), (2, .int v2), (3, .int v3), (4, .int v4)] → fh_I D classes A s.heap h H locs → b_Mo_walkThird_48 K N (l_Mo_walkThird_3 K N o n3) o v1 v2 v3 v4 h = some res → W p l e rm_Mo_walkThird s m [.ref o, .int a1, .int a2, .int a3].toArray below meth c H locs 0 0 (MQ below (fh_Q D classes h0 s.heap.size (none) res) [.ref o, .int a1, .int a2, .int a3].toArray s 0 0 A) (F0 m 48 ls []) := by
        intro v1 v2 v3 v4 h H locs ls hl hI hf
        unfold b_Mo_walkThird_48 at hf
        obtain ⟨x1, e_x1, hf⟩ := fh_b hf
        refine lv_iinc (v := x1) (lv' := [(4, .int x1), (0, va_rf (some o)), (1, .int v1), (2, .int v2), (3, .int v3)]) hx hb d_Mo_walkThird_48 hl (k := 4) rfl (by rw [fh_qe e_x1]; rfl) (by decide) rfl (fun ls hl => ?_)
        refine lv_goto (tgt := 3) hx hb d_Mo_walkThird_51 (by decide) ?_
        exact ih3 v1 v2 v3 x1 h _ _ _ (lv_sub hl [1, 2, 3, 4, 0] rfl) hI hf
      intro v1 v2 v3 v4 h H locs ls hl hI hf
      have hf : b_Mo_walkThird_3 K N (l_Mo_walkThird_3 K N o n3) o v1 v2 v3 v4 h = some res := hf
      unfold b_Mo_walkThird_3 at hf
      refine lv_iload hx hb d_Mo_walkThird_3 (lv_at hl 4 rfl) ?_
      refine fh_aload_n S d_Mo_walkThird_5 rfl (lv_at hl 0 rfl) ?_
      obtain ⟨x1, e_x1, hf⟩ := fh_b hf
      refine fh_geti S hE.1 hI e_x1 (hc := rfl) (hin := in_6) (by decide) (hts _ k_163) d_Mo_walkThird_6 ?_
      refine lv_icmp_ge (tgt := 54) hx hb d_Mo_walkThird_9 (by decide) (fun c_9 => ?_) (fun c_9 => ?_)
      · replace hf := fh_t c_9 hf
        obtain rfl := Option.some.inj hf
        exact fh_vret S hr hk hAe hI d_Mo_walkThird_54
      · replace hf := fh_f c_9 hf
        refine lv_iload_n hx hb d_Mo_walkThird_12 rfl (lv_at hl 1 rfl) ?_
        obtain ⟨r2, e_r2, hf⟩ := fh_b hf
        refine fh_callS (As := [.int v1]) (rest := []) S fT_good hE hI (c_Mo_size e_r2) fy_Mo_size fst_Mo_size k_192 ⟨rfl, rfl⟩ ⟨Nat.le_of_ble_eq_true rfl, Nat.le_of_ble_eq_true rfl⟩ ⟨Nat.zero_le _, Nat.zero_le _⟩ rfl hl.1 rfl (Nat.le_of_ble_eq_true rfl) d_Mo_walkThird_13 (fun H locs hI => ?_)
        refine lv_iconst (v := 3) hx hb d_Mo_walkThird_16 (by decide) ?_
        refine lv_icmp_ne (tgt := 39) hx hb d_Mo_walkThird_17 (by decide) (fun c_17 => ?_) (fun c_17 => ?_)
        · replace hf := fh_f c_17 hf
          refine fh_aload_n S d_Mo_walkThird_39 rfl (lv_at hl 0 rfl) ?_
          refine lv_iload_n hx hb d_Mo_walkThird_40 rfl (lv_at hl 1 rfl) ?_
          refine lv_iload_n hx hb d_Mo_walkThird_41 rfl (lv_at hl 2 rfl) ?_
          refine lv_iload_n hx hb d_Mo_walkThird_42 rfl (lv_at hl 3 rfl) ?_
          refine lv_iload hx hb d_Mo_walkThird_43 (lv_at hl 4 rfl) ?_
          obtain ⟨o3, e_o3, hf⟩ := fh_b hf
          obtain ⟨r4, e_r4, hf⟩ := fh_b hf
          refine fh_callV (As := [.int v1, .int v2, .int v3, .int v4]) (rest := []) S fT_good hE hI e_o3 rfl (c_Mo_walkMore e_r4) fy_Mo_walkMore fst_Mo_walkMore k_203 ⟨rfl, rfl⟩ ⟨Nat.le_of_ble_eq_true rfl, Nat.le_of_ble_eq_true rfl⟩ ⟨Nat.zero_le _, Nat.zero_le _⟩ rfl hl.1 rfl (Nat.le_of_ble_eq_true rfl) d_Mo_walkThird_45 (fun H locs hI => ?_)
          exact B48 v1 v2 v3 v4 r4 _ _ _ (lv_sub hl [0, 1, 2, 3, 4] rfl) hI hf
        · replace hf := fh_t c_17 hf
          refine fh_aload_n S d_Mo_walkThird_20 rfl (lv_at hl 0 rfl) ?_
          refine lv_iload_n hx hb d_Mo_walkThird_21 rfl (lv_at hl 2 rfl) ?_
          refine lv_iload_n hx hb d_Mo_walkThird_22 rfl (lv_at hl 3 rfl) ?_
          refine lv_iload hx hb d_Mo_walkThird_23 (lv_at hl 4 rfl) ?_
          refine lv_iconst (v := 0) hx hb d_Mo_walkThird_25 (by decide) ?_
          refine lv_iconst (v := 0) hx hb d_Mo_walkThird_26 (by decide) ?_
          refine lv_iconst (v := 0) hx hb d_Mo_walkThird_27 (by decide) ?_
          obtain ⟨o5, e_o5, hf⟩ := fh_b hf
          obtain ⟨r6, e_r6, hf⟩ := fh_b hf
          refine fh_callV (As := [.int v2, .int v3, .int v4, .int 0, .int 0, .int 0]) (rest := []) S fT_good hE hI e_o5 rfl (c_Mo_setRow e_r6) fy_Mo_setRow fst_Mo_setRow k_184 ⟨rfl, rfl⟩ ⟨Nat.le_of_ble_eq_true rfl, Nat.le_of_ble_eq_true rfl⟩ ⟨Nat.zero_le _, Nat.zero_le _⟩ rfl hl.1 rfl (Nat.le_of_ble_eq_true rfl) d_Mo_walkThird_28 (fun H locs hI => ?_)
          refine fh_aload_n S d_Mo_walkThird_31 rfl (lv_at hl 0 rfl) ?_
          refine lv_iload_n hx hb d_Mo_walkThird_32 rfl (lv_at hl 1 rfl) ?_
          obtain ⟨o7, e_o7, hf⟩ := fh_b hf
          obtain ⟨r8, e_r8, hf⟩ := fh_b hf
          refine fh_callV (As := [.int v1]) (rest := []) S fT_good hE hI e_o7 rfl (c_Mo_visit e_r8) fy_Mo_visit fst_Mo_visit k_201 ⟨rfl, rfl⟩ ⟨Nat.le_of_ble_eq_true rfl, Nat.le_of_ble_eq_true rfl⟩ ⟨Nat.zero_le _, Nat.zero_le _⟩ rfl hl.1 rfl (Nat.le_of_ble_eq_true rfl) d_Mo_walkThird_33 (fun H locs hI => ?_)
          refine lv_goto (tgt := 48) hx hb d_Mo_walkThird_36 (by decide) ?_
          exact B48 v1 v2 v3 v4 r8 _ _ _ (lv_sub hl [0, 1, 2, 3, 4] rfl) hI hf
  unfold f_Mo_walkThird at hf
  refine lv_iconst (v := 0) hx hb d_Mo_walkThird_0 (by decide) ?_
  refine lv_istore (lv' := [(4, .int 0), (0, va_rf (some o)), (1, .int a1), (2, .int a2), (3, .int a3)]) hx hb d_Mo_walkThird_1 hl (by decide) rfl (fun ls hl => ?_)
  exact L3 N a1 a2 a3 0 h0 _ _ _ (lv_sub hl [1, 2, 3, 4, 0] rfl) hI hf
theorem d_Mo_walk_0 : decode c0_Mo_walk 0 = .ok (.aload_n 0, 1) := by decide +kernel
theorem d_Mo_walk_1 : decode c0_Mo_walk 1 = .ok (.invokevirtual 210, 3) := by decide +kernel
theorem d_Mo_walk_4 : decode c0_Mo_walk 4 = .ok (.aload_n 0, 1) := by decide +kernel
theorem d_Mo_walk_5 : decode c0_Mo_walk 5 = .ok (.iconst 0, 1) := by decide +kernel
theorem d_Mo_walk_6 : decode c0_Mo_walk 6 = .ok (.putfield 219, 3) := by decide +kernel
theorem d_Mo_walk_9 : decode c0_Mo_walk 9 = .ok (.aload_n 0, 1) := by decide +kernel
theorem d_Mo_walk_10 : decode c0_Mo_walk 10 = .ok (.iload_n 2, 1) := by decide +kernel
theorem d_Mo_walk_11 : decode c0_Mo_walk 11 = .ok (.putfield 222, 3) := by decide +kernel
theorem d_Mo_walk_14 : decode c0_Mo_walk 14 = .ok (.aload_n 0, 1) := by decide +kernel
theorem d_Mo_walk_15 : decode c0_Mo_walk 15 = .ok (.iconst 0, 1) := by decide +kernel
theorem d_Mo_walk_16 : decode c0_Mo_walk 16 = .ok (.putfield 225, 3) := by decide +kernel
theorem d_Mo_walk_19 : decode c0_Mo_walk 19 = .ok (.iconst 0, 1) := by decide +kernel
theorem d_Mo_walk_20 : decode c0_Mo_walk 20 = .ok (.istore_n 3, 1) := by decide +kernel
theorem d_Mo_walk_21 : decode c0_Mo_walk 21 = .ok (.iload_n 3, 1) := by decide +kernel
theorem d_Mo_walk_22 : decode c0_Mo_walk 22 = .ok (.aload_n 0, 1) := by decide +kernel
theorem d_Mo_walk_23 : decode c0_Mo_walk 23 = .ok (.getfield 131, 3) := by decide +kernel
theorem d_Mo_walk_26 : decode c0_Mo_walk 26 = .ok (.if_icmp .ge 70, 3) := by decide +kernel
theorem d_Mo_walk_29 : decode c0_Mo_walk 29 = .ok (.iconst 0, 1) := by decide +kernel
theorem d_Mo_walk_30 : decode c0_Mo_walk 30 = .ok (.istore 4, 2) := by decide +kernel
theorem d_Mo_walk_32 : decode c0_Mo_walk 32 = .ok (.iload 4, 2) := by decide +kernel
theorem d_Mo_walk_34 : decode c0_Mo_walk 34 = .ok (.aload_n 0, 1) := by decide +kernel
theorem d_Mo_walk_35 : decode c0_Mo_walk 35 = .ok (.getfield 131, 3) := by decide +kernel
theorem d_Mo_walk_38 : decode c0_Mo_walk 38 = .ok (.if_icmp .ge 52, 3) := by decide +kernel
theorem d_Mo_walk_41 : decode c0_Mo_walk 41 = .ok (.iload_n 1, 1) := by decide +kernel
theorem d_Mo_walk_42 : decode c0_Mo_walk 42 = .ok (.ifCond .ne 22, 3) := by decide +kernel
theorem d_Mo_walk_45 : decode c0_Mo_walk 45 = .ok (.aload_n 0, 1) := by decide +kernel
theorem d_Mo_walk_46 : decode c0_Mo_walk 46 = .ok (.iload_n 3, 1) := by decide +kernel
theorem d_Mo_walk_47 : decode c0_Mo_walk 47 = .ok (.iload 4, 2) := by decide +kernel
theorem d_Mo_walk_49 : decode c0_Mo_walk 49 = .ok (.iconst 0, 1) := by decide +kernel
theorem d_Mo_walk_50 : decode c0_Mo_walk 50 = .ok (.iconst 0, 1) := by decide +kernel
theorem d_Mo_walk_51 : decode c0_Mo_walk 51 = .ok (.iconst 0, 1) := by decide +kernel
theorem d_Mo_walk_52 : decode c0_Mo_walk 52 = .ok (.iconst 0, 1) := by decide +kernel
theorem d_Mo_walk_53 : decode c0_Mo_walk 53 = .ok (.invokevirtual 198, 3) := by decide +kernel
theorem d_Mo_walk_56 : decode c0_Mo_walk 56 = .ok (.aload_n 0, 1) := by decide +kernel
theorem d_Mo_walk_57 : decode c0_Mo_walk 57 = .ok (.iload_n 1, 1) := by decide +kernel
theorem d_Mo_walk_58 : decode c0_Mo_walk 58 = .ok (.invokevirtual 228, 3) := by decide +kernel
theorem d_Mo_walk_61 : decode c0_Mo_walk 61 = .ok (.goto 23, 3) := by decide +kernel
theorem d_Mo_walk_64 : decode c0_Mo_walk 64 = .ok (.iload_n 1, 1) := by decide +kernel
theorem d_Mo_walk_65 : decode c0_Mo_walk 65 = .ok (.bipush 6, 2) := by decide +kernel
theorem d_Mo_walk_67 : decode c0_Mo_walk 67 = .ok (.if_icmp .eq 9, 3) := by decide +kernel
theorem d_Mo_walk_70 : decode c0_Mo_walk 70 = .ok (.iload_n 3, 1) := by decide +kernel
theorem d_Mo_walk_71 : decode c0_Mo_walk 71 = .ok (.iload 4, 2) := by decide +kernel
theorem d_Mo_walk_73 : decode c0_Mo_walk 73 = .ok (.if_icmp .ge 11, 3) := by decide +kernel
theorem d_Mo_walk_76 : decode c0_Mo_walk 76 = .ok (.aload_n 0, 1) := by decide +kernel
theorem d_Mo_walk_77 : decode c0_Mo_walk 77 = .ok (.iload_n 1, 1) := by decide +kernel
theorem d_Mo_walk_78 : decode c0_Mo_walk 78 = .ok (.iload_n 3, 1) := by decide +kernel
theorem d_Mo_walk_79 : decode c0_Mo_walk 79 = .ok (.iload 4, 2) := by decide +kernel
theorem d_Mo_walk_81 : decode c0_Mo_walk 81 = .ok (.invokevirtual 231, 3) := by decide +kernel
theorem d_Mo_walk_84 : decode c0_Mo_walk 84 = .ok (.iinc 4 1, 3) := by decide +kernel
theorem d_Mo_walk_87 : decode c0_Mo_walk 87 = .ok (.goto (-55), 3) := by decide +kernel
theorem d_Mo_walk_90 : decode c0_Mo_walk 90 = .ok (.iinc 3 1, 3) := by decide +kernel
theorem d_Mo_walk_93 : decode c0_Mo_walk 93 = .ok (.goto (-72), 3) := by decide +kernel
theorem d_Mo_walk_96 : decode c0_Mo_walk 96 = .ok (.return_, 1) := by decide +kernel
def b_Mo_walk_84 (K : Nat → ClassId) (N : Nat) (k21 : Int32 → Int32 → fh_H → Option (fh_H)) (k32 : Int32 → Int32 → Int32 → fh_H → Option (fh_H)) (o : Nat) (v1 : Int32) (v3 : Int32) (v4 : Int32) (h : fh_H) : Option (fh_H) :=
  (some (v4 + 1)).bind fun x1 => k32 v1 v3 x1 h
def b_Mo_walk_76 (K : Nat → ClassId) (N : Nat) (k21 : Int32 → Int32 → fh_H → Option (fh_H)) (k32 : Int32 → Int32 → Int32 → fh_H → Option (fh_H)) (o : Nat) (v1 : Int32) (v3 : Int32) (v4 : Int32) (h : fh_H) : Option (fh_H) :=
  (fg_o h (some o) 6).bind fun o1 => (f_Mo_walkThird K N o1 v1 v3 v4 h).bind fun r2 => b_Mo_walk_84 K N k21 k32 o v1 v3 v4 r2
def b_Mo_walk_32 (K : Nat → ClassId) (N : Nat) (k21 : Int32 → Int32 → fh_H → Option (fh_H)) (k32 : Int32 → Int32 → Int32 → fh_H → Option (fh_H)) (o : Nat) (v1 : Int32) (v3 : Int32) (v4 : Int32) (h : fh_H) : Option (fh_H) :=
  (fg_i h (some o) 6 0).bind fun x1 => if x1 ≤ v4 then ((some (v3 + 1)).bind fun x2 => k21 v1 x2 h) else (if v1 = 0 then ((fg_o h (some o) 6).bind fun o3 => (f_Mo_setRow K N o3 v3 v4 0 0 0 0 h).bind fun r4 => (fg_o r4 (some o) 6).bind fun o5 => (f_Mo_visit K N o5 v1 r4).bind fun r6 => b_Mo_walk_84 K N k21 k32 o v1 v3 v4 r6) else (if v1 = 6 then (b_Mo_walk_76 K N k21 k32 o v1 v3 v4 h) else (if v4 ≤ v3 then (b_Mo_walk_84 K N k21 k32 o v1 v3 v4 h) else (b_Mo_walk_76 K N k21 k32 o v1 v3 v4 h))))
def l_Mo_walk_32 (K : Nat → ClassId) (N : Nat) (k21 : Int32 → Int32 → fh_H → Option (fh_H)) (o : Nat) : Nat → Int32 → Int32 → Int32 → fh_H → Option (fh_H)
  | 0, _, _, _, _ => none
  | n + 1, v1, v3, v4, h => b_Mo_walk_32 K N k21 (l_Mo_walk_32 K N k21 o n) o v1 v3 v4 h
def b_Mo_walk_21 (K : Nat → ClassId) (N : Nat) (k21 : Int32 → Int32 → fh_H → Option (fh_H)) (o : Nat) (v1 : Int32) (v3 : Int32) (h : fh_H) : Option (fh_H) :=
  (fg_i h (some o) 6 0).bind fun x1 => if x1 ≤ v3 then (some h) else (l_Mo_walk_32 K N k21 o N v1 v3 0 h)
def l_Mo_walk_21 (K : Nat → ClassId) (N : Nat) (o : Nat) : Nat → Int32 → Int32 → fh_H → Option (fh_H)
  | 0, _, _, _ => none
  | n + 1, v1, v3, h => b_Mo_walk_21 K N (l_Mo_walk_21 K N o n) o v1 v3 h
def f_Mo_walk (K : Nat → ClassId) (N : Nat) (o : Nat) (a1 : Int32) (a2 : Int32) (h0 : fh_H) : Option (fh_H) :=
  (fg_o h0 (some o) 6).bind fun o1 => (f_Mo_findSame K N o1 h0).bind fun r2 => (fp_v r2 (some o) 6 17 (.int 0)).bind fun h3 => (fp_v h3 (some o) 6 18 (.int a2)).bind fun h4 => (fp_z h4 (some o) 6 20 0).bind fun h5 => l_Mo_walk_21 K N o N a1 0 h5
set_option maxHeartbeats 4000000 in
set_option maxRecDepth 100000 in
theorem c_Mo_walk {l : Launch} {D : va_G} {K : Nat → ClassId} {t : Nat → Nat} {N : Nat} {o : Nat} {a1 : Int32} {a2 : Int32} {h0 : fh_H} {res : fh_H} (hf : f_Mo_walk K N o a1 a2 h0 = some res) : fC l D K t y_Mo_walk c0_Mo_walk 5 none rm_Mo_walk [.ref o, .int a1, .int a2] h0 (none) res := by
  refine fh_body (by decide) (Nat.le_of_ble_eq_true rfl) ?_
  intro p e s m below meth c A ls S hr hk hnm hE hAe hI hl
  obtain ⟨hx, hb, hml, hown, hts⟩ := id S
  have hl : lv_has ls 5 [(0, va_rf (some o)), (1, .int a1), (2, .int a2)] := hl
  have L21 : ∀ (n21 : Nat) (v1 : Int32) (v3 : Int32) (h : fh_H) (H : Heap) (locs : List Loc) (ls : Array Slot), lv_has ls 5 [(0, va_rf (some o)), (1, .int v1), (3, .int v3)] → fh_I D classes A s.heap h H locs → l_Mo_walk_21 K N o n21 v1 v3 h = some res → W p l e rm_Mo_walk s m [.ref o, .int a1, .int a2].toArray below meth c H locs 0 0 (MQ below (fh_Q D classes h0 s.heap.size (none) res) [.ref o, .int a1, .int a2].toArray s 0 0 A) (F0 m 21 ls []) := by
    intro n21
    induction n21 with
    | zero =>
      intro v1 v3 h H locs ls hl hI hf
      exact fh_no hf
    | succ n21 ih21 =>
      have L32 : ∀ (n32 : Nat) (v1 : Int32) (v3 : Int32) (v4 : Int32) (h : fh_H) (H : Heap) (locs : List Loc) (ls : Array Slot), lv_has ls 5 [(0, va_rf (some o)), (1, .int v1), (3, .int v3), (4, .int v4)] → fh_I D classes A s.heap h H locs → l_Mo_walk_32 K N (l_Mo_walk_21 K N o n21) o n32 v1 v3 v4 h = some res → W p l e rm_Mo_walk s m [.ref o, .int a1, .int a2].toArray below meth c H locs 0 0 (MQ below (fh_Q D classes h0 s.heap.size (none) res) [.ref o, .int a1, .int a2].toArray s 0 0 A) (F0 m 32 ls []) := by
        intro n32
        induction n32 with
        | zero =>
          intro v1 v3 v4 h H locs ls hl hI hf
          exact fh_no hf
        | succ n32 ih32 =>
          have B84 : ∀ (v1 : Int32) (v3 : Int32) (v4 : Int32) (h : fh_H) (H : Heap) (locs : List Loc) (ls : Array Slot), lv_has ls 5 [(0, va_rf (some o)), (1, .int v1), (3, .int v3), (4, .int v4)] → fh_I D classes A s.heap h H locs → b_Mo_walk_84 K N (l_Mo_walk_21 K N o n21) (l_Mo_walk_32 K N (l_Mo_walk_21 K N o n21) o n32) o v1 v3 v4 h = some res → W p l e rm_Mo_walk s m [.ref o, .int a1, .int a2].toArray below meth c H locs 0 0 (MQ below (fh_Q D classes h0 s.heap.size (none) res) [.ref o, .int a1, .int a2].toArray s 0 0 A) (F0 m 84 ls []) := by
            intro v1 v3 v4 h H locs ls hl hI hf
            unfold b_Mo_walk_84 at hf
            obtain ⟨x1, e_x1, hf⟩ := fh_b hf
            refine lv_iinc (v := x1) (lv' := [(4, .int x1), (0, va_rf (some o)), (1, .int v1), (3, .int v3)]) hx hb d_Mo_walk_84 hl (k := 3) rfl (by rw [fh_qe e_x1]; rfl) (by decide) rfl (fun ls hl => ?_)
            refine lv_goto (tgt := 32) hx hb d_Mo_walk_87 (by decide) ?_
            exact ih32 v1 v3 x1 h _ _ _ (lv_sub hl [1, 2, 3, 0] rfl) hI hf
          have B76 : ∀ (v1 : Int32) (v3 : Int32) (v4 : Int32) (h : fh_H) (H : Heap) (locs : List Loc) (ls : Array Slot), lv_has ls 5 [(0, va_rf (some o)), (1, .int v1), (3, .int v3), (4, .int v4)] → fh_I D classes A s.heap h H locs → b_Mo_walk_76 K N (l_Mo_walk_21 K N o n21) (l_Mo_walk_32 K N (l_Mo_walk_21 K N o n21) o n32) o v1 v3 v4 h = some res → W p l e rm_Mo_walk s m [.ref o, .int a1, .int a2].toArray below meth c H locs 0 0 (MQ below (fh_Q D classes h0 s.heap.size (none) res) [.ref o, .int a1, .int a2].toArray s 0 0 A) (F0 m 76 ls []) := by
            intro v1 v3 v4 h H locs ls hl hI hf
            unfold b_Mo_walk_76 at hf
            refine fh_aload_n S d_Mo_walk_76 rfl (lv_at hl 0 rfl) ?_
            refine lv_iload_n hx hb d_Mo_walk_77 rfl (lv_at hl 1 rfl) ?_
            refine lv_iload_n hx hb d_Mo_walk_78 rfl (lv_at hl 2 rfl) ?_
            refine lv_iload hx hb d_Mo_walk_79 (lv_at hl 3 rfl) ?_
            obtain ⟨o1, e_o1, hf⟩ := fh_b hf
            obtain ⟨r2, e_r2, hf⟩ := fh_b hf
            refine fh_callV (As := [.int v1, .int v3, .int v4]) (rest := []) S fT_good hE hI e_o1 rfl (c_Mo_walkThird e_r2) fy_Mo_walkThird fst_Mo_walkThird k_204 ⟨rfl, rfl⟩ ⟨Nat.le_of_ble_eq_true rfl, Nat.le_of_ble_eq_true rfl⟩ ⟨Nat.zero_le _, Nat.zero_le _⟩ rfl hl.1 rfl (Nat.le_of_ble_eq_true rfl) d_Mo_walk_81 (fun H locs hI => ?_)
            exact B84 v1 v3 v4 r2 _ _ _ (lv_sub hl [0, 1, 2, 3] rfl) hI hf
          intro v1 v3 v4 h H locs ls hl hI hf
          have hf : b_Mo_walk_32 K N (l_Mo_walk_21 K N o n21) (l_Mo_walk_32 K N (l_Mo_walk_21 K N o n21) o n32) o v1 v3 v4 h = some res := hf
          unfold b_Mo_walk_32 at hf
          refine lv_iload hx hb d_Mo_walk_32 (lv_at hl 3 rfl) ?_
          refine fh_aload_n S d_Mo_walk_34 rfl (lv_at hl 0 rfl) ?_
          obtain ⟨x1, e_x1, hf⟩ := fh_b hf
          refine fh_geti S hE.1 hI e_x1 (hc := rfl) (hin := in_6) (by decide) (hts _ k_163) d_Mo_walk_35 ?_
          refine lv_icmp_ge (tgt := 90) hx hb d_Mo_walk_38 (by decide) (fun c_38 => ?_) (fun c_38 => ?_)
          · replace hf := fh_t c_38 hf
            obtain ⟨x2, e_x2, hf⟩ := fh_b hf
            refine lv_iinc (v := x2) (lv' := [(3, .int x2), (0, va_rf (some o)), (1, .int v1), (4, .int v4)]) hx hb d_Mo_walk_90 hl (k := 2) rfl (by rw [fh_qe e_x2]; rfl) (by decide) rfl (fun ls hl => ?_)
            refine lv_goto (tgt := 21) hx hb d_Mo_walk_93 (by decide) ?_
            exact ih21 v1 x2 h _ _ _ (lv_sub hl [1, 2, 0] rfl) hI hf
          · replace hf := fh_f c_38 hf
            refine lv_iload_n hx hb d_Mo_walk_41 rfl (lv_at hl 1 rfl) ?_
            refine lv_if_ne (tgt := 64) hx hb d_Mo_walk_42 (by decide) (fun c_42 => ?_) (fun c_42 => ?_)
            · replace hf := fh_f c_42 hf
              refine lv_iload_n hx hb d_Mo_walk_64 rfl (lv_at hl 1 rfl) ?_
              refine lv_bipush (v := 6) hx hb d_Mo_walk_65 (by decide) ?_
              refine lv_icmp_eq (tgt := 76) hx hb d_Mo_walk_67 (by decide) (fun c_67 => ?_) (fun c_67 => ?_)
              · replace hf := fh_t c_67 hf
                exact B76 v1 v3 v4 h _ _ _ (lv_sub hl [0, 1, 2, 3] rfl) hI hf
              · replace hf := fh_f c_67 hf
                refine lv_iload_n hx hb d_Mo_walk_70 rfl (lv_at hl 2 rfl) ?_
                refine lv_iload hx hb d_Mo_walk_71 (lv_at hl 3 rfl) ?_
                refine lv_icmp_ge (tgt := 84) hx hb d_Mo_walk_73 (by decide) (fun c_73 => ?_) (fun c_73 => ?_)
                · replace hf := fh_t c_73 hf
                  exact B84 v1 v3 v4 h _ _ _ (lv_sub hl [0, 1, 2, 3] rfl) hI hf
                · replace hf := fh_f c_73 hf
                  exact B76 v1 v3 v4 h _ _ _ (lv_sub hl [0, 1, 2, 3] rfl) hI hf
            · replace hf := fh_t c_42 hf
              refine fh_aload_n S d_Mo_walk_45 rfl (lv_at hl 0 rfl) ?_
              refine lv_iload_n hx hb d_Mo_walk_46 rfl (lv_at hl 2 rfl) ?_
              refine lv_iload hx hb d_Mo_walk_47 (lv_at hl 3 rfl) ?_
              refine lv_iconst (v := 0) hx hb d_Mo_walk_49 (by decide) ?_
              refine lv_iconst (v := 0) hx hb d_Mo_walk_50 (by decide) ?_
              refine lv_iconst (v := 0) hx hb d_Mo_walk_51 (by decide) ?_
              refine lv_iconst (v := 0) hx hb d_Mo_walk_52 (by decide) ?_
              obtain ⟨o3, e_o3, hf⟩ := fh_b hf
              obtain ⟨r4, e_r4, hf⟩ := fh_b hf
              refine fh_callV (As := [.int v3, .int v4, .int 0, .int 0, .int 0, .int 0]) (rest := []) S fT_good hE hI e_o3 rfl (c_Mo_setRow e_r4) fy_Mo_setRow fst_Mo_setRow k_184 ⟨rfl, rfl⟩ ⟨Nat.le_of_ble_eq_true rfl, Nat.le_of_ble_eq_true rfl⟩ ⟨Nat.zero_le _, Nat.zero_le _⟩ rfl hl.1 rfl (Nat.le_of_ble_eq_true rfl) d_Mo_walk_53 (fun H locs hI => ?_)
              refine fh_aload_n S d_Mo_walk_56 rfl (lv_at hl 0 rfl) ?_
              refine lv_iload_n hx hb d_Mo_walk_57 rfl (lv_at hl 1 rfl) ?_
              obtain ⟨o5, e_o5, hf⟩ := fh_b hf
              obtain ⟨r6, e_r6, hf⟩ := fh_b hf
              refine fh_callV (As := [.int v1]) (rest := []) S fT_good hE hI e_o5 rfl (c_Mo_visit e_r6) fy_Mo_visit fst_Mo_visit k_201 ⟨rfl, rfl⟩ ⟨Nat.le_of_ble_eq_true rfl, Nat.le_of_ble_eq_true rfl⟩ ⟨Nat.zero_le _, Nat.zero_le _⟩ rfl hl.1 rfl (Nat.le_of_ble_eq_true rfl) d_Mo_walk_58 (fun H locs hI => ?_)
              refine lv_goto (tgt := 84) hx hb d_Mo_walk_61 (by decide) ?_
              exact B84 v1 v3 v4 r6 _ _ _ (lv_sub hl [0, 1, 2, 3] rfl) hI hf
      intro v1 v3 h H locs ls hl hI hf
      have hf : b_Mo_walk_21 K N (l_Mo_walk_21 K N o n21) o v1 v3 h = some res := hf
      unfold b_Mo_walk_21 at hf
      refine lv_iload_n hx hb d_Mo_walk_21 rfl (lv_at hl 2 rfl) ?_
      refine fh_aload_n S d_Mo_walk_22 rfl (lv_at hl 0 rfl) ?_
      obtain ⟨x1, e_x1, hf⟩ := fh_b hf
      refine fh_geti S hE.1 hI e_x1 (hc := rfl) (hin := in_6) (by decide) (hts _ k_163) d_Mo_walk_23 ?_
      refine lv_icmp_ge (tgt := 96) hx hb d_Mo_walk_26 (by decide) (fun c_26 => ?_) (fun c_26 => ?_)
      · replace hf := fh_t c_26 hf
        obtain rfl := Option.some.inj hf
        exact fh_vret S hr hk hAe hI d_Mo_walk_96
      · replace hf := fh_f c_26 hf
        refine lv_iconst (v := 0) hx hb d_Mo_walk_29 (by decide) ?_
        refine lv_istore (lv' := [(4, .int 0), (0, va_rf (some o)), (1, .int v1), (3, .int v3)]) hx hb d_Mo_walk_30 hl (by decide) rfl (fun ls hl => ?_)
        exact L32 N v1 v3 0 h _ _ _ (lv_sub hl [1, 2, 3, 0] rfl) hI hf
  unfold f_Mo_walk at hf
  refine fh_aload_n S d_Mo_walk_0 rfl (lv_at hl 0 rfl) ?_
  obtain ⟨o1, e_o1, hf⟩ := fh_b hf
  obtain ⟨r2, e_r2, hf⟩ := fh_b hf
  refine fh_callV (As := []) (rest := []) S fT_good hE hI e_o1 rfl (c_Mo_findSame e_r2) fy_Mo_findSame fst_Mo_findSame k_187 ⟨rfl, rfl⟩ ⟨Nat.le_of_ble_eq_true rfl, Nat.le_of_ble_eq_true rfl⟩ ⟨Nat.zero_le _, Nat.zero_le _⟩ rfl hl.1 rfl (Nat.le_of_ble_eq_true rfl) d_Mo_walk_1 (fun H locs hI => ?_)
  refine fh_aload_n S d_Mo_walk_4 rfl (lv_at hl 0 rfl) ?_
  refine lv_iconst (v := 0) hx hb d_Mo_walk_5 (by decide) ?_
  obtain ⟨h3, e_h3, hf⟩ := fh_b hf
  refine fh_putv S hE.1 hI e_h3 (hc := rfl) (hin := in_6) tok_6 nok_6 (by decide) (hts _ k_197) rfl rfl rfl d_Mo_walk_6 (fun H locs hI => ?_)
  refine fh_aload_n S d_Mo_walk_9 rfl (lv_at hl 0 rfl) ?_
  refine lv_iload_n hx hb d_Mo_walk_10 rfl (lv_at hl 2 rfl) ?_
  obtain ⟨h4, e_h4, hf⟩ := fh_b hf
  refine fh_putv S hE.1 hI e_h4 (hc := rfl) (hin := in_6) tok_6 nok_6 (by decide) (hts _ k_198) rfl rfl rfl d_Mo_walk_11 (fun H locs hI => ?_)
  refine fh_aload_n S d_Mo_walk_14 rfl (lv_at hl 0 rfl) ?_
  refine lv_iconst (v := 0) hx hb d_Mo_walk_15 (by decide) ?_
  obtain ⟨h5, e_h5, hf⟩ := fh_b hf
  refine fh_putz S hE.1 hI e_h5 (hc := rfl) (hin := in_6) tok_6 nok_6 (by decide) (hts _ k_200) rfl rfl d_Mo_walk_16 (fun H locs hI => ?_)
  refine lv_iconst (v := 0) hx hb d_Mo_walk_19 (by decide) ?_
  refine lv_istore_n (lv' := [(3, .int 0), (0, va_rf (some o)), (1, .int a1), (2, .int a2)]) hx hb d_Mo_walk_20 rfl hl (by decide) rfl (fun ls hl => ?_)
  exact L21 N a1 0 h5 _ _ _ (lv_sub hl [1, 2, 0] rfl) hI hf
theorem d_Mo_facts_0 : decode c0_Mo_facts 0 = .ok (.iload_n 1, 1) := by decide +kernel
theorem d_Mo_facts_1 : decode c0_Mo_facts 1 = .ok (.iconst 0, 1) := by decide +kernel
theorem d_Mo_facts_2 : decode c0_Mo_facts 2 = .ok (.bipush 8, 2) := by decide +kernel
theorem d_Mo_facts_4 : decode c0_Mo_facts 4 = .ok (.invokestatic 145, 3) := by decide +kernel
theorem d_Mo_facts_7 : decode c0_Mo_facts 7 = .ok (.ifCond .ne 6, 3) := by decide +kernel
theorem d_Mo_facts_10 : decode c0_Mo_facts 10 = .ok (.bipush (-2), 2) := by decide +kernel
theorem d_Mo_facts_12 : decode c0_Mo_facts 12 = .ok (.ireturn, 1) := by decide +kernel
theorem d_Mo_facts_13 : decode c0_Mo_facts 13 = .ok (.aload_n 0, 1) := by decide +kernel
theorem d_Mo_facts_14 : decode c0_Mo_facts 14 = .ok (.iload_n 1, 1) := by decide +kernel
theorem d_Mo_facts_15 : decode c0_Mo_facts 15 = .ok (.iconst (-1), 1) := by decide +kernel
theorem d_Mo_facts_16 : decode c0_Mo_facts 16 = .ok (.invokevirtual 240, 3) := by decide +kernel
theorem d_Mo_facts_19 : decode c0_Mo_facts 19 = .ok (.aload_n 0, 1) := by decide +kernel
theorem d_Mo_facts_20 : decode c0_Mo_facts 20 = .ok (.getfield 219, 3) := by decide +kernel
theorem d_Mo_facts_23 : decode c0_Mo_facts 23 = .ok (.ireturn, 1) := by decide +kernel
def f_Mo_facts (K : Nat → ClassId) (N : Nat) (o : Nat) (a1 : Int32) (h0 : fh_H) : Option (Int32 × fh_H) :=
  (f_Mo_isIn K N a1 0 8 h0).bind fun r1 => if r1.1 = 0 then (some ((-2), r1.2)) else ((fg_o r1.2 (some o) 6).bind fun o2 => (f_Mo_walk K N o2 a1 (-1) r1.2).bind fun r3 => (fg_i r3 (some o) 6 17).bind fun x4 => some (x4, r3))
set_option maxHeartbeats 4000000 in
set_option maxRecDepth 100000 in
theorem c_Mo_facts {l : Launch} {D : va_G} {K : Nat → ClassId} {t : Nat → Nat} {N : Nat} {o : Nat} {a1 : Int32} {h0 : fh_H} {res : Int32 × fh_H} (hf : f_Mo_facts K N o a1 h0 = some res) : fC l D K t y_Mo_facts c0_Mo_facts 2 (some .int) rm_Mo_facts [.ref o, .int a1] h0 (some (.int res.1)) res.2 := by
  refine fh_body (by decide) (Nat.le_of_ble_eq_true rfl) ?_
  intro p e s m below meth c A ls S hr hk hnm hE hAe hI hl
  obtain ⟨hx, hb, hml, hown, hts⟩ := id S
  have hl : lv_has ls 2 [(0, va_rf (some o)), (1, .int a1)] := hl
  unfold f_Mo_facts at hf
  refine lv_iload_n hx hb d_Mo_facts_0 rfl (lv_at hl 1 rfl) ?_
  refine lv_iconst (v := 0) hx hb d_Mo_facts_1 (by decide) ?_
  refine lv_bipush (v := 8) hx hb d_Mo_facts_2 (by decide) ?_
  obtain ⟨r1, e_r1, hf⟩ := fh_b hf
  refine fh_callS (As := [.int a1, .int 0, .int 8]) (rest := []) S fT_good hE hI (c_Mo_isIn e_r1) fy_Mo_isIn fst_Mo_isIn k_172 ⟨rfl, rfl⟩ ⟨Nat.le_of_ble_eq_true rfl, Nat.le_of_ble_eq_true rfl⟩ ⟨Nat.zero_le _, Nat.zero_le _⟩ rfl hl.1 rfl (Nat.le_of_ble_eq_true rfl) d_Mo_facts_4 (fun H locs hI => ?_)
  refine lv_if_ne (tgt := 13) hx hb d_Mo_facts_7 (by decide) (fun c_7 => ?_) (fun c_7 => ?_)
  · replace hf := fh_f c_7 hf
    refine fh_aload_n S d_Mo_facts_13 rfl (lv_at hl 0 rfl) ?_
    refine lv_iload_n hx hb d_Mo_facts_14 rfl (lv_at hl 1 rfl) ?_
    refine lv_iconst (v := (-1)) hx hb d_Mo_facts_15 (by decide) ?_
    obtain ⟨o2, e_o2, hf⟩ := fh_b hf
    obtain ⟨r3, e_r3, hf⟩ := fh_b hf
    refine fh_callV (As := [.int a1, .int (-1)]) (rest := []) S fT_good hE hI e_o2 rfl (c_Mo_walk e_r3) fy_Mo_walk fst_Mo_walk k_205 ⟨rfl, rfl⟩ ⟨Nat.le_of_ble_eq_true rfl, Nat.le_of_ble_eq_true rfl⟩ ⟨Nat.zero_le _, Nat.zero_le _⟩ rfl hl.1 rfl (Nat.le_of_ble_eq_true rfl) d_Mo_facts_16 (fun H locs hI => ?_)
    refine fh_aload_n S d_Mo_facts_19 rfl (lv_at hl 0 rfl) ?_
    obtain ⟨x4, e_x4, hf⟩ := fh_b hf
    refine fh_geti S hE.1 hI e_x4 (hc := rfl) (hin := in_6) (by decide) (hts _ k_197) d_Mo_facts_20 ?_
    obtain rfl := Option.some.inj hf
    exact fh_iret S hr hk rfl hAe hI d_Mo_facts_23
  · replace hf := fh_t c_7 hf
    refine lv_bipush (v := (-2)) hx hb d_Mo_facts_10 (by decide) ?_
    obtain rfl := Option.some.inj hf
    exact fh_iret S hr hk rfl hAe hI d_Mo_facts_12
theorem d_Mo_fact_0 : decode c0_Mo_fact 0 = .ok (.iload_n 1, 1) := by decide +kernel
theorem d_Mo_fact_1 : decode c0_Mo_fact 1 = .ok (.iconst 0, 1) := by decide +kernel
theorem d_Mo_fact_2 : decode c0_Mo_fact 2 = .ok (.bipush 8, 2) := by decide +kernel
theorem d_Mo_fact_4 : decode c0_Mo_fact 4 = .ok (.invokestatic 145, 3) := by decide +kernel
theorem d_Mo_fact_7 : decode c0_Mo_fact 7 = .ok (.ifCond .ne 6, 3) := by decide +kernel
theorem d_Mo_fact_10 : decode c0_Mo_fact 10 = .ok (.bipush (-2), 2) := by decide +kernel
theorem d_Mo_fact_12 : decode c0_Mo_fact 12 = .ok (.ireturn, 1) := by decide +kernel
theorem d_Mo_fact_13 : decode c0_Mo_fact 13 = .ok (.aload_n 0, 1) := by decide +kernel
theorem d_Mo_fact_14 : decode c0_Mo_fact 14 = .ok (.iload_n 1, 1) := by decide +kernel
theorem d_Mo_fact_15 : decode c0_Mo_fact 15 = .ok (.iload_n 2, 1) := by decide +kernel
theorem d_Mo_fact_16 : decode c0_Mo_fact 16 = .ok (.invokevirtual 240, 3) := by decide +kernel
theorem d_Mo_fact_19 : decode c0_Mo_fact 19 = .ok (.iload_n 1, 1) := by decide +kernel
theorem d_Mo_fact_20 : decode c0_Mo_fact 20 = .ok (.bipush 8, 2) := by decide +kernel
theorem d_Mo_fact_22 : decode c0_Mo_fact 22 = .ok (.if_icmp .ne 8, 3) := by decide +kernel
theorem d_Mo_fact_25 : decode c0_Mo_fact 25 = .ok (.bipush 6, 2) := by decide +kernel
theorem d_Mo_fact_27 : decode c0_Mo_fact 27 = .ok (.goto 7, 3) := by decide +kernel
theorem d_Mo_fact_30 : decode c0_Mo_fact 30 = .ok (.iload_n 1, 1) := by decide +kernel
theorem d_Mo_fact_31 : decode c0_Mo_fact 31 = .ok (.invokestatic 201, 3) := by decide +kernel
theorem d_Mo_fact_34 : decode c0_Mo_fact 34 = .ok (.istore 4, 2) := by decide +kernel
theorem d_Mo_fact_36 : decode c0_Mo_fact 36 = .ok (.aload_n 0, 1) := by decide +kernel
theorem d_Mo_fact_37 : decode c0_Mo_fact 37 = .ok (.getfield 225, 3) := by decide +kernel
theorem d_Mo_fact_40 : decode c0_Mo_fact 40 = .ok (.ifCond .eq 24, 3) := by decide +kernel
theorem d_Mo_fact_43 : decode c0_Mo_fact 43 = .ok (.iload_n 3, 1) := by decide +kernel
theorem d_Mo_fact_44 : decode c0_Mo_fact 44 = .ok (.iconst 0, 1) := by decide +kernel
theorem d_Mo_fact_45 : decode c0_Mo_fact 45 = .ok (.iload 4, 2) := by decide +kernel
theorem d_Mo_fact_47 : decode c0_Mo_fact 47 = .ok (.iconst 1, 1) := by decide +kernel
theorem d_Mo_fact_48 : decode c0_Mo_fact 48 = .ok (.isub, 1) := by decide +kernel
theorem d_Mo_fact_49 : decode c0_Mo_fact 49 = .ok (.invokestatic 145, 3) := by decide +kernel
theorem d_Mo_fact_52 : decode c0_Mo_fact 52 = .ok (.ifCond .eq 12, 3) := by decide +kernel
theorem d_Mo_fact_55 : decode c0_Mo_fact 55 = .ok (.aload_n 0, 1) := by decide +kernel
theorem d_Mo_fact_56 : decode c0_Mo_fact 56 = .ok (.getfield 40, 3) := by decide +kernel
theorem d_Mo_fact_59 : decode c0_Mo_fact 59 = .ok (.iload_n 3, 1) := by decide +kernel
theorem d_Mo_fact_60 : decode c0_Mo_fact 60 = .ok (.iaload, 1) := by decide +kernel
theorem d_Mo_fact_61 : decode c0_Mo_fact 61 = .ok (.goto 4, 3) := by decide +kernel
theorem d_Mo_fact_64 : decode c0_Mo_fact 64 = .ok (.iconst (-1), 1) := by decide +kernel
theorem d_Mo_fact_65 : decode c0_Mo_fact 65 = .ok (.ireturn, 1) := by decide +kernel
def b_Mo_fact_34 (K : Nat → ClassId) (N : Nat) (o : Nat) (v3 : Int32) (w0 : Int32) (h : fh_H) : Option (Int32 × fh_H) :=
  (fg_i h (some o) 6 20).bind fun x1 => if x1 = 0 then (some ((-1), h)) else ((f_Mo_isIn K N v3 0 (w0 - 1) h).bind fun r2 => if r2.1 = 0 then (some ((-1), r2.2)) else ((fg_a r2.2 (some o) 6 19).bind fun x3 => (fa_i (K 0) r2.2 x3 v3).bind fun x4 => some (x4, r2.2)))
def f_Mo_fact (K : Nat → ClassId) (N : Nat) (o : Nat) (a1 : Int32) (a2 : Int32) (a3 : Int32) (h0 : fh_H) : Option (Int32 × fh_H) :=
  (f_Mo_isIn K N a1 0 8 h0).bind fun r1 => if r1.1 = 0 then (some ((-2), r1.2)) else ((fg_o r1.2 (some o) 6).bind fun o2 => (f_Mo_walk K N o2 a1 a2 r1.2).bind fun r3 => if a1 = 8 then (b_Mo_fact_34 K N o a3 6 r3) else ((f_Mo_size K N a1 r3).bind fun r4 => b_Mo_fact_34 K N o a3 r4.1 r4.2))
set_option maxHeartbeats 4000000 in
set_option maxRecDepth 100000 in
theorem c_Mo_fact {l : Launch} {D : va_G} {K : Nat → ClassId} {t : Nat → Nat} {N : Nat} {o : Nat} {a1 : Int32} {a2 : Int32} {a3 : Int32} {h0 : fh_H} {res : Int32 × fh_H} (hf : f_Mo_fact K N o a1 a2 a3 h0 = some res) : fC l D K t y_Mo_fact c0_Mo_fact 5 (some .int) rm_Mo_fact [.ref o, .int a1, .int a2, .int a3] h0 (some (.int res.1)) res.2 := by
  refine fh_body (by decide) (Nat.le_of_ble_eq_true rfl) ?_
  intro p e s m below meth c A ls S hr hk hnm hE hAe hI hl
  obtain ⟨hx, hb, hml, hown, hts⟩ := id S
  have hl : lv_has ls 5 [(0, va_rf (some o)), (1, .int a1), (2, .int a2), (3, .int a3)] := hl
  have B34 : ∀ (v3 : Int32) (w0 : Int32) (h : fh_H) (H : Heap) (locs : List Loc) (ls : Array Slot), lv_has ls 5 [(0, va_rf (some o)), (3, .int v3)] → fh_I D classes A s.heap h H locs → b_Mo_fact_34 K N o v3 w0 h = some res → W p l e rm_Mo_fact s m [.ref o, .int a1, .int a2, .int a3].toArray below meth c H locs 0 0 (MQ below (fh_Q D classes h0 s.heap.size (some (.int res.1)) res.2) [.ref o, .int a1, .int a2, .int a3].toArray s 0 0 A) (F0 m 34 ls [.int w0]) := by
    intro v3 w0 h H locs ls hl hI hf
    unfold b_Mo_fact_34 at hf
    refine lv_istore (lv' := [(4, .int w0), (0, va_rf (some o)), (3, .int v3)]) hx hb d_Mo_fact_34 hl (by decide) rfl (fun ls hl => ?_)
    refine fh_aload_n S d_Mo_fact_36 rfl (lv_at hl 1 rfl) ?_
    obtain ⟨x1, e_x1, hf⟩ := fh_b hf
    refine fh_geti S hE.1 hI e_x1 (hc := rfl) (hin := in_6) (by decide) (hts _ k_200) d_Mo_fact_37 ?_
    refine lv_if_eq (tgt := 64) hx hb d_Mo_fact_40 (by decide) (fun c_40 => ?_) (fun c_40 => ?_)
    · replace hf := fh_t c_40 hf
      refine lv_iconst (v := (-1)) hx hb d_Mo_fact_64 (by decide) ?_
      obtain rfl := Option.some.inj hf
      exact fh_iret S hr hk rfl hAe hI d_Mo_fact_65
    · replace hf := fh_f c_40 hf
      refine lv_iload_n hx hb d_Mo_fact_43 rfl (lv_at hl 2 rfl) ?_
      refine lv_iconst (v := 0) hx hb d_Mo_fact_44 (by decide) ?_
      refine lv_iload hx hb d_Mo_fact_45 (lv_at hl 0 rfl) ?_
      refine lv_iconst (v := 1) hx hb d_Mo_fact_47 (by decide) ?_
      refine lv_isub hx hb d_Mo_fact_48 ?_
      obtain ⟨r2, e_r2, hf⟩ := fh_b hf
      refine fh_callS (As := [.int v3, .int 0, .int (w0 - 1)]) (rest := []) S fT_good hE hI (c_Mo_isIn e_r2) fy_Mo_isIn fst_Mo_isIn k_172 ⟨rfl, rfl⟩ ⟨Nat.le_of_ble_eq_true rfl, Nat.le_of_ble_eq_true rfl⟩ ⟨Nat.zero_le _, Nat.zero_le _⟩ rfl hl.1 rfl (Nat.le_of_ble_eq_true rfl) d_Mo_fact_49 (fun H locs hI => ?_)
      refine lv_if_eq (tgt := 64) hx hb d_Mo_fact_52 (by decide) (fun c_52 => ?_) (fun c_52 => ?_)
      · replace hf := fh_t c_52 hf
        refine lv_iconst (v := (-1)) hx hb d_Mo_fact_64 (by decide) ?_
        obtain rfl := Option.some.inj hf
        exact fh_iret S hr hk rfl hAe hI d_Mo_fact_65
      · replace hf := fh_f c_52 hf
        refine fh_aload_n S d_Mo_fact_55 rfl (lv_at hl 1 rfl) ?_
        obtain ⟨x3, e_x3, hf⟩ := fh_b hf
        refine fh_geta S hE.1 hI e_x3 (hc := rfl) (hin := in_6) (by decide) (hts _ k_199) d_Mo_fact_56 ?_
        refine lv_iload_n hx hb d_Mo_fact_59 rfl (lv_at hl 2 rfl) ?_
        obtain ⟨x4, e_x4, hf⟩ := fh_b hf
        refine fh_iald S hE.1 hI 0 rfl e_x4 d_Mo_fact_60 ?_
        refine lv_goto (tgt := 65) hx hb d_Mo_fact_61 (by decide) ?_
        obtain rfl := Option.some.inj hf
        exact fh_iret S hr hk rfl hAe hI d_Mo_fact_65
  unfold f_Mo_fact at hf
  refine lv_iload_n hx hb d_Mo_fact_0 rfl (lv_at hl 1 rfl) ?_
  refine lv_iconst (v := 0) hx hb d_Mo_fact_1 (by decide) ?_
  refine lv_bipush (v := 8) hx hb d_Mo_fact_2 (by decide) ?_
  obtain ⟨r1, e_r1, hf⟩ := fh_b hf
  refine fh_callS (As := [.int a1, .int 0, .int 8]) (rest := []) S fT_good hE hI (c_Mo_isIn e_r1) fy_Mo_isIn fst_Mo_isIn k_172 ⟨rfl, rfl⟩ ⟨Nat.le_of_ble_eq_true rfl, Nat.le_of_ble_eq_true rfl⟩ ⟨Nat.zero_le _, Nat.zero_le _⟩ rfl hl.1 rfl (Nat.le_of_ble_eq_true rfl) d_Mo_fact_4 (fun H locs hI => ?_)
  refine lv_if_ne (tgt := 13) hx hb d_Mo_fact_7 (by decide) (fun c_7 => ?_) (fun c_7 => ?_)
  · replace hf := fh_f c_7 hf
    refine fh_aload_n S d_Mo_fact_13 rfl (lv_at hl 0 rfl) ?_
    refine lv_iload_n hx hb d_Mo_fact_14 rfl (lv_at hl 1 rfl) ?_
    refine lv_iload_n hx hb d_Mo_fact_15 rfl (lv_at hl 2 rfl) ?_
    obtain ⟨o2, e_o2, hf⟩ := fh_b hf
    obtain ⟨r3, e_r3, hf⟩ := fh_b hf
    refine fh_callV (As := [.int a1, .int a2]) (rest := []) S fT_good hE hI e_o2 rfl (c_Mo_walk e_r3) fy_Mo_walk fst_Mo_walk k_205 ⟨rfl, rfl⟩ ⟨Nat.le_of_ble_eq_true rfl, Nat.le_of_ble_eq_true rfl⟩ ⟨Nat.zero_le _, Nat.zero_le _⟩ rfl hl.1 rfl (Nat.le_of_ble_eq_true rfl) d_Mo_fact_16 (fun H locs hI => ?_)
    refine lv_iload_n hx hb d_Mo_fact_19 rfl (lv_at hl 1 rfl) ?_
    refine lv_bipush (v := 8) hx hb d_Mo_fact_20 (by decide) ?_
    refine lv_icmp_ne (tgt := 30) hx hb d_Mo_fact_22 (by decide) (fun c_22 => ?_) (fun c_22 => ?_)
    · replace hf := fh_f c_22 hf
      refine lv_iload_n hx hb d_Mo_fact_30 rfl (lv_at hl 1 rfl) ?_
      obtain ⟨r4, e_r4, hf⟩ := fh_b hf
      refine fh_callS (As := [.int a1]) (rest := []) S fT_good hE hI (c_Mo_size e_r4) fy_Mo_size fst_Mo_size k_192 ⟨rfl, rfl⟩ ⟨Nat.le_of_ble_eq_true rfl, Nat.le_of_ble_eq_true rfl⟩ ⟨Nat.zero_le _, Nat.zero_le _⟩ rfl hl.1 rfl (Nat.le_of_ble_eq_true rfl) d_Mo_fact_31 (fun H locs hI => ?_)
      exact B34 a3 r4.1 r4.2 _ _ _ (lv_sub hl [0, 3] rfl) hI hf
    · replace hf := fh_t c_22 hf
      refine lv_bipush (v := 6) hx hb d_Mo_fact_25 (by decide) ?_
      refine lv_goto (tgt := 34) hx hb d_Mo_fact_27 (by decide) ?_
      exact B34 a3 6 r3 _ _ _ (lv_sub hl [0, 3] rfl) hI hf
  · replace hf := fh_t c_7 hf
    refine lv_bipush (v := (-2)) hx hb d_Mo_fact_10 (by decide) ?_
    obtain rfl := Option.some.inj hf
    exact fh_iret S hr hk rfl hAe hI d_Mo_fact_12
theorem d_Mo_needs3_0 : decode c0_Mo_needs3 0 = .ok (.iload_n 1, 1) := by decide +kernel
theorem d_Mo_needs3_1 : decode c0_Mo_needs3 1 = .ok (.iconst 0, 1) := by decide +kernel
theorem d_Mo_needs3_2 : decode c0_Mo_needs3 2 = .ok (.bipush 8, 2) := by decide +kernel
theorem d_Mo_needs3_4 : decode c0_Mo_needs3 4 = .ok (.invokestatic 145, 3) := by decide +kernel
theorem d_Mo_needs3_7 : decode c0_Mo_needs3 7 = .ok (.ifCond .eq 11, 3) := by decide +kernel
theorem d_Mo_needs3_10 : decode c0_Mo_needs3 10 = .ok (.aload_n 0, 1) := by decide +kernel
theorem d_Mo_needs3_11 : decode c0_Mo_needs3 11 = .ok (.iload_n 3, 1) := by decide +kernel
theorem d_Mo_needs3_12 : decode c0_Mo_needs3 12 = .ok (.invokevirtual 157, 3) := by decide +kernel
theorem d_Mo_needs3_15 : decode c0_Mo_needs3 15 = .ok (.ifCond .ne 6, 3) := by decide +kernel
theorem d_Mo_needs3_18 : decode c0_Mo_needs3 18 = .ok (.bipush (-2), 2) := by decide +kernel
theorem d_Mo_needs3_20 : decode c0_Mo_needs3 20 = .ok (.ireturn, 1) := by decide +kernel
theorem d_Mo_needs3_21 : decode c0_Mo_needs3 21 = .ok (.aload_n 0, 1) := by decide +kernel
theorem d_Mo_needs3_22 : decode c0_Mo_needs3 22 = .ok (.iload_n 1, 1) := by decide +kernel
theorem d_Mo_needs3_23 : decode c0_Mo_needs3 23 = .ok (.iload_n 2, 1) := by decide +kernel
theorem d_Mo_needs3_24 : decode c0_Mo_needs3 24 = .ok (.invokevirtual 240, 3) := by decide +kernel
theorem d_Mo_needs3_27 : decode c0_Mo_needs3 27 = .ok (.aload_n 0, 1) := by decide +kernel
theorem d_Mo_needs3_28 : decode c0_Mo_needs3 28 = .ok (.getfield 225, 3) := by decide +kernel
theorem d_Mo_needs3_31 : decode c0_Mo_needs3 31 = .ok (.ifCond .ne 5, 3) := by decide +kernel
theorem d_Mo_needs3_34 : decode c0_Mo_needs3 34 = .ok (.iconst (-1), 1) := by decide +kernel
theorem d_Mo_needs3_35 : decode c0_Mo_needs3 35 = .ok (.ireturn, 1) := by decide +kernel
theorem d_Mo_needs3_36 : decode c0_Mo_needs3 36 = .ok (.aload_n 0, 1) := by decide +kernel
theorem d_Mo_needs3_37 : decode c0_Mo_needs3 37 = .ok (.getfield 7, 3) := by decide +kernel
theorem d_Mo_needs3_40 : decode c0_Mo_needs3 40 = .ok (.iload_n 3, 1) := by decide +kernel
theorem d_Mo_needs3_41 : decode c0_Mo_needs3 41 = .ok (.iaload, 1) := by decide +kernel
theorem d_Mo_needs3_42 : decode c0_Mo_needs3 42 = .ok (.istore 4, 2) := by decide +kernel
theorem d_Mo_needs3_44 : decode c0_Mo_needs3 44 = .ok (.aload_n 0, 1) := by decide +kernel
theorem d_Mo_needs3_45 : decode c0_Mo_needs3 45 = .ok (.getfield 7, 3) := by decide +kernel
theorem d_Mo_needs3_48 : decode c0_Mo_needs3 48 = .ok (.iload_n 3, 1) := by decide +kernel
theorem d_Mo_needs3_49 : decode c0_Mo_needs3 49 = .ok (.iconst 0, 1) := by decide +kernel
theorem d_Mo_needs3_50 : decode c0_Mo_needs3 50 = .ok (.iastore, 1) := by decide +kernel
theorem d_Mo_needs3_51 : decode c0_Mo_needs3 51 = .ok (.aload_n 0, 1) := by decide +kernel
theorem d_Mo_needs3_52 : decode c0_Mo_needs3 52 = .ok (.invokevirtual 46, 3) := by decide +kernel
theorem d_Mo_needs3_55 : decode c0_Mo_needs3 55 = .ok (.aload_n 0, 1) := by decide +kernel
theorem d_Mo_needs3_56 : decode c0_Mo_needs3 56 = .ok (.aload_n 0, 1) := by decide +kernel
theorem d_Mo_needs3_57 : decode c0_Mo_needs3 57 = .ok (.getfield 40, 3) := by decide +kernel
theorem d_Mo_needs3_60 : decode c0_Mo_needs3 60 = .ok (.iconst 0, 1) := by decide +kernel
theorem d_Mo_needs3_61 : decode c0_Mo_needs3 61 = .ok (.iaload, 1) := by decide +kernel
theorem d_Mo_needs3_62 : decode c0_Mo_needs3 62 = .ok (.aload_n 0, 1) := by decide +kernel
theorem d_Mo_needs3_63 : decode c0_Mo_needs3 63 = .ok (.getfield 40, 3) := by decide +kernel
theorem d_Mo_needs3_66 : decode c0_Mo_needs3 66 = .ok (.iconst 1, 1) := by decide +kernel
theorem d_Mo_needs3_67 : decode c0_Mo_needs3 67 = .ok (.iaload, 1) := by decide +kernel
theorem d_Mo_needs3_68 : decode c0_Mo_needs3 68 = .ok (.aload_n 0, 1) := by decide +kernel
theorem d_Mo_needs3_69 : decode c0_Mo_needs3 69 = .ok (.getfield 40, 3) := by decide +kernel
theorem d_Mo_needs3_72 : decode c0_Mo_needs3 72 = .ok (.iconst 2, 1) := by decide +kernel
theorem d_Mo_needs3_73 : decode c0_Mo_needs3 73 = .ok (.iaload, 1) := by decide +kernel
theorem d_Mo_needs3_74 : decode c0_Mo_needs3 74 = .ok (.aload_n 0, 1) := by decide +kernel
theorem d_Mo_needs3_75 : decode c0_Mo_needs3 75 = .ok (.getfield 40, 3) := by decide +kernel
theorem d_Mo_needs3_78 : decode c0_Mo_needs3 78 = .ok (.iconst 3, 1) := by decide +kernel
theorem d_Mo_needs3_79 : decode c0_Mo_needs3 79 = .ok (.iaload, 1) := by decide +kernel
theorem d_Mo_needs3_80 : decode c0_Mo_needs3 80 = .ok (.aload_n 0, 1) := by decide +kernel
theorem d_Mo_needs3_81 : decode c0_Mo_needs3 81 = .ok (.getfield 40, 3) := by decide +kernel
theorem d_Mo_needs3_84 : decode c0_Mo_needs3 84 = .ok (.iconst 4, 1) := by decide +kernel
theorem d_Mo_needs3_85 : decode c0_Mo_needs3 85 = .ok (.iaload, 1) := by decide +kernel
theorem d_Mo_needs3_86 : decode c0_Mo_needs3 86 = .ok (.aload_n 0, 1) := by decide +kernel
theorem d_Mo_needs3_87 : decode c0_Mo_needs3 87 = .ok (.getfield 40, 3) := by decide +kernel
theorem d_Mo_needs3_90 : decode c0_Mo_needs3 90 = .ok (.iconst 5, 1) := by decide +kernel
theorem d_Mo_needs3_91 : decode c0_Mo_needs3 91 = .ok (.iaload, 1) := by decide +kernel
theorem d_Mo_needs3_92 : decode c0_Mo_needs3 92 = .ok (.invokevirtual 198, 3) := by decide +kernel
theorem d_Mo_needs3_95 : decode c0_Mo_needs3 95 = .ok (.aload_n 0, 1) := by decide +kernel
theorem d_Mo_needs3_96 : decode c0_Mo_needs3 96 = .ok (.iload_n 1, 1) := by decide +kernel
theorem d_Mo_needs3_97 : decode c0_Mo_needs3 97 = .ok (.invokevirtual 207, 3) := by decide +kernel
theorem d_Mo_needs3_100 : decode c0_Mo_needs3 100 = .ok (.istore 5, 2) := by decide +kernel
theorem d_Mo_needs3_102 : decode c0_Mo_needs3 102 = .ok (.aload_n 0, 1) := by decide +kernel
theorem d_Mo_needs3_103 : decode c0_Mo_needs3 103 = .ok (.getfield 7, 3) := by decide +kernel
theorem d_Mo_needs3_106 : decode c0_Mo_needs3 106 = .ok (.iload_n 3, 1) := by decide +kernel
theorem d_Mo_needs3_107 : decode c0_Mo_needs3 107 = .ok (.iload 4, 2) := by decide +kernel
theorem d_Mo_needs3_109 : decode c0_Mo_needs3 109 = .ok (.iastore, 1) := by decide +kernel
theorem d_Mo_needs3_110 : decode c0_Mo_needs3 110 = .ok (.aload_n 0, 1) := by decide +kernel
theorem d_Mo_needs3_111 : decode c0_Mo_needs3 111 = .ok (.invokevirtual 46, 3) := by decide +kernel
theorem d_Mo_needs3_114 : decode c0_Mo_needs3 114 = .ok (.iload 5, 2) := by decide +kernel
theorem d_Mo_needs3_116 : decode c0_Mo_needs3 116 = .ok (.ifCond .eq 7, 3) := by decide +kernel
theorem d_Mo_needs3_119 : decode c0_Mo_needs3 119 = .ok (.iconst 0, 1) := by decide +kernel
theorem d_Mo_needs3_120 : decode c0_Mo_needs3 120 = .ok (.goto 4, 3) := by decide +kernel
theorem d_Mo_needs3_123 : decode c0_Mo_needs3 123 = .ok (.iconst 1, 1) := by decide +kernel
theorem d_Mo_needs3_124 : decode c0_Mo_needs3 124 = .ok (.ireturn, 1) := by decide +kernel
def f_Mo_needs3 (K : Nat → ClassId) (N : Nat) (o : Nat) (a1 : Int32) (a2 : Int32) (a3 : Int32) (h0 : fh_H) : Option (Int32 × fh_H) :=
  (f_Mo_isIn K N a1 0 8 h0).bind fun r1 => if r1.1 = 0 then (some ((-2), r1.2)) else ((fg_o r1.2 (some o) 6).bind fun o2 => (f_Mo_isPoint K N o2 a3 r1.2).bind fun r3 => if r3.1 = 0 then (some ((-2), r3.2)) else ((fg_o r3.2 (some o) 6).bind fun o4 => (f_Mo_walk K N o4 a1 a2 r3.2).bind fun r5 => (fg_i r5 (some o) 6 20).bind fun x6 => if x6 = 0 then (some ((-1), r5)) else ((fg_a r5 (some o) 6 1).bind fun x7 => (fa_i (K 0) r5 x7 a3).bind fun x8 => (fg_a r5 (some o) 6 1).bind fun x9 => (fs_i (K 0) r5 x9 a3 0).bind fun h10 => (fg_o h10 (some o) 6).bind fun o11 => (f_Mo_drawAll K N o11 h10).bind fun r12 => (fg_a r12 (some o) 6 19).bind fun x13 => (fa_i (K 0) r12 x13 0).bind fun x14 => (fg_a r12 (some o) 6 19).bind fun x15 => (fa_i (K 0) r12 x15 1).bind fun x16 => (fg_a r12 (some o) 6 19).bind fun x17 => (fa_i (K 0) r12 x17 2).bind fun x18 => (fg_a r12 (some o) 6 19).bind fun x19 => (fa_i (K 0) r12 x19 3).bind fun x20 => (fg_a r12 (some o) 6 19).bind fun x21 => (fa_i (K 0) r12 x21 4).bind fun x22 => (fg_a r12 (some o) 6 19).bind fun x23 => (fa_i (K 0) r12 x23 5).bind fun x24 => (fg_o r12 (some o) 6).bind fun o25 => (f_Mo_setRow K N o25 x14 x16 x18 x20 x22 x24 r12).bind fun r26 => (fg_o r26 (some o) 6).bind fun o27 => (f_Mo_isHeld K N o27 a1 r26).bind fun r28 => (fg_a r28.2 (some o) 6 1).bind fun x29 => (fs_i (K 0) r28.2 x29 a3 x8).bind fun h30 => (fg_o h30 (some o) 6).bind fun o31 => (f_Mo_drawAll K N o31 h30).bind fun r32 => if r28.1 = 0 then (some (1, r32)) else (some (0, r32)))))
set_option maxHeartbeats 4000000 in
set_option maxRecDepth 100000 in
theorem c_Mo_needs3 {l : Launch} {D : va_G} {K : Nat → ClassId} {t : Nat → Nat} {N : Nat} {o : Nat} {a1 : Int32} {a2 : Int32} {a3 : Int32} {h0 : fh_H} {res : Int32 × fh_H} (hf : f_Mo_needs3 K N o a1 a2 a3 h0 = some res) : fC l D K t y_Mo_needs3 c0_Mo_needs3 6 (some .int) rm_Mo_needs3 [.ref o, .int a1, .int a2, .int a3] h0 (some (.int res.1)) res.2 := by
  refine fh_body (by decide) (Nat.le_of_ble_eq_true rfl) ?_
  intro p e s m below meth c A ls S hr hk hnm hE hAe hI hl
  obtain ⟨hx, hb, hml, hown, hts⟩ := id S
  have hl : lv_has ls 6 [(0, va_rf (some o)), (1, .int a1), (2, .int a2), (3, .int a3)] := hl
  unfold f_Mo_needs3 at hf
  refine lv_iload_n hx hb d_Mo_needs3_0 rfl (lv_at hl 1 rfl) ?_
  refine lv_iconst (v := 0) hx hb d_Mo_needs3_1 (by decide) ?_
  refine lv_bipush (v := 8) hx hb d_Mo_needs3_2 (by decide) ?_
  obtain ⟨r1, e_r1, hf⟩ := fh_b hf
  refine fh_callS (As := [.int a1, .int 0, .int 8]) (rest := []) S fT_good hE hI (c_Mo_isIn e_r1) fy_Mo_isIn fst_Mo_isIn k_172 ⟨rfl, rfl⟩ ⟨Nat.le_of_ble_eq_true rfl, Nat.le_of_ble_eq_true rfl⟩ ⟨Nat.zero_le _, Nat.zero_le _⟩ rfl hl.1 rfl (Nat.le_of_ble_eq_true rfl) d_Mo_needs3_4 (fun H locs hI => ?_)
  refine lv_if_eq (tgt := 18) hx hb d_Mo_needs3_7 (by decide) (fun c_7 => ?_) (fun c_7 => ?_)
  · replace hf := fh_t c_7 hf
    refine lv_bipush (v := (-2)) hx hb d_Mo_needs3_18 (by decide) ?_
    obtain rfl := Option.some.inj hf
    exact fh_iret S hr hk rfl hAe hI d_Mo_needs3_20
  · replace hf := fh_f c_7 hf
    refine fh_aload_n S d_Mo_needs3_10 rfl (lv_at hl 0 rfl) ?_
    refine lv_iload_n hx hb d_Mo_needs3_11 rfl (lv_at hl 3 rfl) ?_
    obtain ⟨o2, e_o2, hf⟩ := fh_b hf
    obtain ⟨r3, e_r3, hf⟩ := fh_b hf
    refine fh_callV (As := [.int a3]) (rest := []) S fT_good hE hI e_o2 rfl (c_Mo_isPoint e_r3) fy_Mo_isPoint fst_Mo_isPoint k_175 ⟨rfl, rfl⟩ ⟨Nat.le_of_ble_eq_true rfl, Nat.le_of_ble_eq_true rfl⟩ ⟨Nat.zero_le _, Nat.zero_le _⟩ rfl hl.1 rfl (Nat.le_of_ble_eq_true rfl) d_Mo_needs3_12 (fun H locs hI => ?_)
    refine lv_if_ne (tgt := 21) hx hb d_Mo_needs3_15 (by decide) (fun c_15 => ?_) (fun c_15 => ?_)
    · replace hf := fh_f c_15 hf
      refine fh_aload_n S d_Mo_needs3_21 rfl (lv_at hl 0 rfl) ?_
      refine lv_iload_n hx hb d_Mo_needs3_22 rfl (lv_at hl 1 rfl) ?_
      refine lv_iload_n hx hb d_Mo_needs3_23 rfl (lv_at hl 2 rfl) ?_
      obtain ⟨o4, e_o4, hf⟩ := fh_b hf
      obtain ⟨r5, e_r5, hf⟩ := fh_b hf
      refine fh_callV (As := [.int a1, .int a2]) (rest := []) S fT_good hE hI e_o4 rfl (c_Mo_walk e_r5) fy_Mo_walk fst_Mo_walk k_205 ⟨rfl, rfl⟩ ⟨Nat.le_of_ble_eq_true rfl, Nat.le_of_ble_eq_true rfl⟩ ⟨Nat.zero_le _, Nat.zero_le _⟩ rfl hl.1 rfl (Nat.le_of_ble_eq_true rfl) d_Mo_needs3_24 (fun H locs hI => ?_)
      refine fh_aload_n S d_Mo_needs3_27 rfl (lv_at hl 0 rfl) ?_
      obtain ⟨x6, e_x6, hf⟩ := fh_b hf
      refine fh_geti S hE.1 hI e_x6 (hc := rfl) (hin := in_6) (by decide) (hts _ k_200) d_Mo_needs3_28 ?_
      refine lv_if_ne (tgt := 36) hx hb d_Mo_needs3_31 (by decide) (fun c_31 => ?_) (fun c_31 => ?_)
      · replace hf := fh_f c_31 hf
        refine fh_aload_n S d_Mo_needs3_36 rfl (lv_at hl 0 rfl) ?_
        obtain ⟨x7, e_x7, hf⟩ := fh_b hf
        refine fh_geta S hE.1 hI e_x7 (hc := rfl) (hin := in_6) (by decide) (hts _ k_164) d_Mo_needs3_37 ?_
        refine lv_iload_n hx hb d_Mo_needs3_40 rfl (lv_at hl 3 rfl) ?_
        obtain ⟨x8, e_x8, hf⟩ := fh_b hf
        refine fh_iald S hE.1 hI 0 rfl e_x8 d_Mo_needs3_41 ?_
        refine lv_istore (lv' := [(4, .int x8), (0, va_rf (some o)), (1, .int a1), (2, .int a2), (3, .int a3)]) hx hb d_Mo_needs3_42 hl (by decide) rfl (fun ls hl => ?_)
        refine fh_aload_n S d_Mo_needs3_44 rfl (lv_at hl 1 rfl) ?_
        obtain ⟨x9, e_x9, hf⟩ := fh_b hf
        refine fh_geta S hE.1 hI e_x9 (hc := rfl) (hin := in_6) (by decide) (hts _ k_164) d_Mo_needs3_45 ?_
        refine lv_iload_n hx hb d_Mo_needs3_48 rfl (lv_at hl 4 rfl) ?_
        refine lv_iconst (v := 0) hx hb d_Mo_needs3_49 (by decide) ?_
        obtain ⟨h10, e_h10, hf⟩ := fh_b hf
        refine fh_iast S hE.1 hI 0 rfl e_h10 d_Mo_needs3_50 (fun H locs hI => ?_)
        refine fh_aload_n S d_Mo_needs3_51 rfl (lv_at hl 1 rfl) ?_
        obtain ⟨o11, e_o11, hf⟩ := fh_b hf
        obtain ⟨r12, e_r12, hf⟩ := fh_b hf
        refine fh_callV (As := []) (rest := []) S fT_good hE hI e_o11 rfl (c_Mo_drawAll e_r12) fy_Mo_drawAll fst_Mo_drawAll k_170 ⟨rfl, rfl⟩ ⟨Nat.le_of_ble_eq_true rfl, Nat.le_of_ble_eq_true rfl⟩ ⟨Nat.zero_le _, Nat.zero_le _⟩ rfl hl.1 rfl (Nat.le_of_ble_eq_true rfl) d_Mo_needs3_52 (fun H locs hI => ?_)
        refine fh_aload_n S d_Mo_needs3_55 rfl (lv_at hl 1 rfl) ?_
        refine fh_aload_n S d_Mo_needs3_56 rfl (lv_at hl 1 rfl) ?_
        obtain ⟨x13, e_x13, hf⟩ := fh_b hf
        refine fh_geta S hE.1 hI e_x13 (hc := rfl) (hin := in_6) (by decide) (hts _ k_199) d_Mo_needs3_57 ?_
        refine lv_iconst (v := 0) hx hb d_Mo_needs3_60 (by decide) ?_
        obtain ⟨x14, e_x14, hf⟩ := fh_b hf
        refine fh_iald S hE.1 hI 0 rfl e_x14 d_Mo_needs3_61 ?_
        refine fh_aload_n S d_Mo_needs3_62 rfl (lv_at hl 1 rfl) ?_
        obtain ⟨x15, e_x15, hf⟩ := fh_b hf
        refine fh_geta S hE.1 hI e_x15 (hc := rfl) (hin := in_6) (by decide) (hts _ k_199) d_Mo_needs3_63 ?_
        refine lv_iconst (v := 1) hx hb d_Mo_needs3_66 (by decide) ?_
        obtain ⟨x16, e_x16, hf⟩ := fh_b hf
        refine fh_iald S hE.1 hI 0 rfl e_x16 d_Mo_needs3_67 ?_
        refine fh_aload_n S d_Mo_needs3_68 rfl (lv_at hl 1 rfl) ?_
        obtain ⟨x17, e_x17, hf⟩ := fh_b hf
        refine fh_geta S hE.1 hI e_x17 (hc := rfl) (hin := in_6) (by decide) (hts _ k_199) d_Mo_needs3_69 ?_
        refine lv_iconst (v := 2) hx hb d_Mo_needs3_72 (by decide) ?_
        obtain ⟨x18, e_x18, hf⟩ := fh_b hf
        refine fh_iald S hE.1 hI 0 rfl e_x18 d_Mo_needs3_73 ?_
        refine fh_aload_n S d_Mo_needs3_74 rfl (lv_at hl 1 rfl) ?_
        obtain ⟨x19, e_x19, hf⟩ := fh_b hf
        refine fh_geta S hE.1 hI e_x19 (hc := rfl) (hin := in_6) (by decide) (hts _ k_199) d_Mo_needs3_75 ?_
        refine lv_iconst (v := 3) hx hb d_Mo_needs3_78 (by decide) ?_
        obtain ⟨x20, e_x20, hf⟩ := fh_b hf
        refine fh_iald S hE.1 hI 0 rfl e_x20 d_Mo_needs3_79 ?_
        refine fh_aload_n S d_Mo_needs3_80 rfl (lv_at hl 1 rfl) ?_
        obtain ⟨x21, e_x21, hf⟩ := fh_b hf
        refine fh_geta S hE.1 hI e_x21 (hc := rfl) (hin := in_6) (by decide) (hts _ k_199) d_Mo_needs3_81 ?_
        refine lv_iconst (v := 4) hx hb d_Mo_needs3_84 (by decide) ?_
        obtain ⟨x22, e_x22, hf⟩ := fh_b hf
        refine fh_iald S hE.1 hI 0 rfl e_x22 d_Mo_needs3_85 ?_
        refine fh_aload_n S d_Mo_needs3_86 rfl (lv_at hl 1 rfl) ?_
        obtain ⟨x23, e_x23, hf⟩ := fh_b hf
        refine fh_geta S hE.1 hI e_x23 (hc := rfl) (hin := in_6) (by decide) (hts _ k_199) d_Mo_needs3_87 ?_
        refine lv_iconst (v := 5) hx hb d_Mo_needs3_90 (by decide) ?_
        obtain ⟨x24, e_x24, hf⟩ := fh_b hf
        refine fh_iald S hE.1 hI 0 rfl e_x24 d_Mo_needs3_91 ?_
        obtain ⟨o25, e_o25, hf⟩ := fh_b hf
        obtain ⟨r26, e_r26, hf⟩ := fh_b hf
        refine fh_callV (As := [.int x14, .int x16, .int x18, .int x20, .int x22, .int x24]) (rest := []) S fT_good hE hI e_o25 rfl (c_Mo_setRow e_r26) fy_Mo_setRow fst_Mo_setRow k_184 ⟨rfl, rfl⟩ ⟨Nat.le_of_ble_eq_true rfl, Nat.le_of_ble_eq_true rfl⟩ ⟨Nat.zero_le _, Nat.zero_le _⟩ rfl hl.1 rfl (Nat.le_of_ble_eq_true rfl) d_Mo_needs3_92 (fun H locs hI => ?_)
        refine fh_aload_n S d_Mo_needs3_95 rfl (lv_at hl 1 rfl) ?_
        refine lv_iload_n hx hb d_Mo_needs3_96 rfl (lv_at hl 2 rfl) ?_
        obtain ⟨o27, e_o27, hf⟩ := fh_b hf
        obtain ⟨r28, e_r28, hf⟩ := fh_b hf
        refine fh_callV (As := [.int a1]) (rest := []) S fT_good hE hI e_o27 rfl (c_Mo_isHeld e_r28) fy_Mo_isHeld fst_Mo_isHeld k_194 ⟨rfl, rfl⟩ ⟨Nat.le_of_ble_eq_true rfl, Nat.le_of_ble_eq_true rfl⟩ ⟨Nat.zero_le _, Nat.zero_le _⟩ rfl hl.1 rfl (Nat.le_of_ble_eq_true rfl) d_Mo_needs3_97 (fun H locs hI => ?_)
        refine lv_istore (lv' := [(5, .int r28.1), (4, .int x8), (0, va_rf (some o)), (1, .int a1), (2, .int a2), (3, .int a3)]) hx hb d_Mo_needs3_100 hl (by decide) rfl (fun ls hl => ?_)
        refine fh_aload_n S d_Mo_needs3_102 rfl (lv_at hl 2 rfl) ?_
        obtain ⟨x29, e_x29, hf⟩ := fh_b hf
        refine fh_geta S hE.1 hI e_x29 (hc := rfl) (hin := in_6) (by decide) (hts _ k_164) d_Mo_needs3_103 ?_
        refine lv_iload_n hx hb d_Mo_needs3_106 rfl (lv_at hl 5 rfl) ?_
        refine lv_iload hx hb d_Mo_needs3_107 (lv_at hl 1 rfl) ?_
        obtain ⟨h30, e_h30, hf⟩ := fh_b hf
        refine fh_iast S hE.1 hI 0 rfl e_h30 d_Mo_needs3_109 (fun H locs hI => ?_)
        refine fh_aload_n S d_Mo_needs3_110 rfl (lv_at hl 2 rfl) ?_
        obtain ⟨o31, e_o31, hf⟩ := fh_b hf
        obtain ⟨r32, e_r32, hf⟩ := fh_b hf
        refine fh_callV (As := []) (rest := []) S fT_good hE hI e_o31 rfl (c_Mo_drawAll e_r32) fy_Mo_drawAll fst_Mo_drawAll k_170 ⟨rfl, rfl⟩ ⟨Nat.le_of_ble_eq_true rfl, Nat.le_of_ble_eq_true rfl⟩ ⟨Nat.zero_le _, Nat.zero_le _⟩ rfl hl.1 rfl (Nat.le_of_ble_eq_true rfl) d_Mo_needs3_111 (fun H locs hI => ?_)
        refine lv_iload hx hb d_Mo_needs3_114 (lv_at hl 0 rfl) ?_
        refine lv_if_eq (tgt := 123) hx hb d_Mo_needs3_116 (by decide) (fun c_116 => ?_) (fun c_116 => ?_)
        · replace hf := fh_t c_116 hf
          refine lv_iconst (v := 1) hx hb d_Mo_needs3_123 (by decide) ?_
          obtain rfl := Option.some.inj hf
          exact fh_iret S hr hk rfl hAe hI d_Mo_needs3_124
        · replace hf := fh_f c_116 hf
          refine lv_iconst (v := 0) hx hb d_Mo_needs3_119 (by decide) ?_
          refine lv_goto (tgt := 124) hx hb d_Mo_needs3_120 (by decide) ?_
          obtain rfl := Option.some.inj hf
          exact fh_iret S hr hk rfl hAe hI d_Mo_needs3_124
      · replace hf := fh_t c_31 hf
        refine lv_iconst (v := (-1)) hx hb d_Mo_needs3_34 (by decide) ?_
        obtain rfl := Option.some.inj hf
        exact fh_iret S hr hk rfl hAe hI d_Mo_needs3_35
    · replace hf := fh_t c_15 hf
      refine lv_bipush (v := (-2)) hx hb d_Mo_needs3_18 (by decide) ?_
      obtain rfl := Option.some.inj hf
      exact fh_iret S hr hk rfl hAe hI d_Mo_needs3_20
theorem d_Mo_clearSets_0 : decode c0_Mo_clearSets 0 = .ok (.aload_n 0, 1) := by decide +kernel
theorem d_Mo_clearSets_1 : decode c0_Mo_clearSets 1 = .ok (.invokevirtual 210, 3) := by decide +kernel
theorem d_Mo_clearSets_4 : decode c0_Mo_clearSets 4 = .ok (.iconst 0, 1) := by decide +kernel
theorem d_Mo_clearSets_5 : decode c0_Mo_clearSets 5 = .ok (.istore_n 1, 1) := by decide +kernel
theorem d_Mo_clearSets_6 : decode c0_Mo_clearSets 6 = .ok (.iload_n 1, 1) := by decide +kernel
theorem d_Mo_clearSets_7 : decode c0_Mo_clearSets 7 = .ok (.sipush 1024, 3) := by decide +kernel
theorem d_Mo_clearSets_10 : decode c0_Mo_clearSets 10 = .ok (.if_icmp .ge 16, 3) := by decide +kernel
theorem d_Mo_clearSets_13 : decode c0_Mo_clearSets 13 = .ok (.aload_n 0, 1) := by decide +kernel
theorem d_Mo_clearSets_14 : decode c0_Mo_clearSets 14 = .ok (.getfield 43, 3) := by decide +kernel
theorem d_Mo_clearSets_17 : decode c0_Mo_clearSets 17 = .ok (.iload_n 1, 1) := by decide +kernel
theorem d_Mo_clearSets_18 : decode c0_Mo_clearSets 18 = .ok (.iconst 0, 1) := by decide +kernel
theorem d_Mo_clearSets_19 : decode c0_Mo_clearSets 19 = .ok (.bastore, 1) := by decide +kernel
theorem d_Mo_clearSets_20 : decode c0_Mo_clearSets 20 = .ok (.iinc 1 1, 3) := by decide +kernel
theorem d_Mo_clearSets_23 : decode c0_Mo_clearSets 23 = .ok (.goto (-17), 3) := by decide +kernel
theorem d_Mo_clearSets_26 : decode c0_Mo_clearSets 26 = .ok (.return_, 1) := by decide +kernel
def b_Mo_clearSets_6 (K : Nat → ClassId) (N : Nat) (k6 : Int32 → fh_H → Option (fh_H)) (o : Nat) (v1 : Int32) (h : fh_H) : Option (fh_H) :=
  if 1024 ≤ v1 then (some h) else ((fg_a h (some o) 6 21).bind fun x1 => (fs_z (K 2) h x1 v1 0).bind fun h2 => (some (v1 + 1)).bind fun x3 => k6 x3 h2)
def l_Mo_clearSets_6 (K : Nat → ClassId) (N : Nat) (o : Nat) : Nat → Int32 → fh_H → Option (fh_H)
  | 0, _, _ => none
  | n + 1, v1, h => b_Mo_clearSets_6 K N (l_Mo_clearSets_6 K N o n) o v1 h
def f_Mo_clearSets (K : Nat → ClassId) (N : Nat) (o : Nat)  (h0 : fh_H) : Option (fh_H) :=
  (fg_o h0 (some o) 6).bind fun o1 => (f_Mo_findSame K N o1 h0).bind fun r2 => l_Mo_clearSets_6 K N o N 0 r2
set_option maxHeartbeats 4000000 in
set_option maxRecDepth 100000 in
theorem c_Mo_clearSets {l : Launch} {D : va_G} {K : Nat → ClassId} {t : Nat → Nat} {N : Nat} {o : Nat}  {h0 : fh_H} {res : fh_H} (hf : f_Mo_clearSets K N o  h0 = some res) : fC l D K t y_Mo_clearSets c0_Mo_clearSets 2 none rm_Mo_clearSets [.ref o] h0 (none) res := by
  refine fh_body (by decide) (Nat.le_of_ble_eq_true rfl) ?_
  intro p e s m below meth c A ls S hr hk hnm hE hAe hI hl
  obtain ⟨hx, hb, hml, hown, hts⟩ := id S
  have hl : lv_has ls 2 [(0, va_rf (some o))] := hl
  have L6 : ∀ (n6 : Nat) (v1 : Int32) (h : fh_H) (H : Heap) (locs : List Loc) (ls : Array Slot), lv_has ls 2 [(0, va_rf (some o)), (1, .int v1)] → fh_I D classes A s.heap h H locs → l_Mo_clearSets_6 K N o n6 v1 h = some res → W p l e rm_Mo_clearSets s m [.ref o].toArray below meth c H locs 0 0 (MQ below (fh_Q D classes h0 s.heap.size (none) res) [.ref o].toArray s 0 0 A) (F0 m 6 ls []) := by
    intro n6
    induction n6 with
    | zero =>
      intro v1 h H locs ls hl hI hf
      exact fh_no hf
    | succ n6 ih6 =>
      intro v1 h H locs ls hl hI hf
      have hf : b_Mo_clearSets_6 K N (l_Mo_clearSets_6 K N o n6) o v1 h = some res := hf
      unfold b_Mo_clearSets_6 at hf
      refine lv_iload_n hx hb d_Mo_clearSets_6 rfl (lv_at hl 1 rfl) ?_
      refine lv_sipush (v := 1024) hx hb d_Mo_clearSets_7 (by decide) ?_
      refine lv_icmp_ge (tgt := 26) hx hb d_Mo_clearSets_10 (by decide) (fun c_10 => ?_) (fun c_10 => ?_)
      · replace hf := fh_t c_10 hf
        obtain rfl := Option.some.inj hf
        exact fh_vret S hr hk hAe hI d_Mo_clearSets_26
      · replace hf := fh_f c_10 hf
        refine fh_aload_n S d_Mo_clearSets_13 rfl (lv_at hl 0 rfl) ?_
        obtain ⟨x1, e_x1, hf⟩ := fh_b hf
        refine fh_geta S hE.1 hI e_x1 (hc := rfl) (hin := in_6) (by decide) (hts _ k_206) d_Mo_clearSets_14 ?_
        refine lv_iload_n hx hb d_Mo_clearSets_17 rfl (lv_at hl 1 rfl) ?_
        refine lv_iconst (v := 0) hx hb d_Mo_clearSets_18 (by decide) ?_
        obtain ⟨h2, e_h2, hf⟩ := fh_b hf
        refine fh_zast S hE.1 hI 2 rfl e_h2 d_Mo_clearSets_19 (fun H locs hI => ?_)
        obtain ⟨x3, e_x3, hf⟩ := fh_b hf
        refine lv_iinc (v := x3) (lv' := [(1, .int x3), (0, va_rf (some o))]) hx hb d_Mo_clearSets_20 hl (k := 1) rfl (by rw [fh_qe e_x3]; rfl) (by decide) rfl (fun ls hl => ?_)
        refine lv_goto (tgt := 6) hx hb d_Mo_clearSets_23 (by decide) ?_
        exact ih6 x3 h2 _ _ _ (lv_sub hl [1, 0] rfl) hI hf
  unfold f_Mo_clearSets at hf
  refine fh_aload_n S d_Mo_clearSets_0 rfl (lv_at hl 0 rfl) ?_
  obtain ⟨o1, e_o1, hf⟩ := fh_b hf
  obtain ⟨r2, e_r2, hf⟩ := fh_b hf
  refine fh_callV (As := []) (rest := []) S fT_good hE hI e_o1 rfl (c_Mo_findSame e_r2) fy_Mo_findSame fst_Mo_findSame k_187 ⟨rfl, rfl⟩ ⟨Nat.le_of_ble_eq_true rfl, Nat.le_of_ble_eq_true rfl⟩ ⟨Nat.zero_le _, Nat.zero_le _⟩ rfl hl.1 rfl (Nat.le_of_ble_eq_true rfl) d_Mo_clearSets_1 (fun H locs hI => ?_)
  refine lv_iconst (v := 0) hx hb d_Mo_clearSets_4 (by decide) ?_
  refine lv_istore_n (lv' := [(1, .int 0), (0, va_rf (some o))]) hx hb d_Mo_clearSets_5 rfl hl (by decide) rfl (fun ls hl => ?_)
  exact L6 N 0 r2 _ _ _ (lv_sub hl [1, 0] rfl) hI hf
theorem d_Mo_set_0 : decode c0_Mo_set 0 = .ok (.iconst 0, 1) := by decide +kernel
theorem d_Mo_set_1 : decode c0_Mo_set 1 = .ok (.istore_n 2, 1) := by decide +kernel
theorem d_Mo_set_2 : decode c0_Mo_set 2 = .ok (.iconst (-1), 1) := by decide +kernel
theorem d_Mo_set_3 : decode c0_Mo_set 3 = .ok (.istore_n 3, 1) := by decide +kernel
theorem d_Mo_set_4 : decode c0_Mo_set 4 = .ok (.iconst 0, 1) := by decide +kernel
theorem d_Mo_set_5 : decode c0_Mo_set 5 = .ok (.istore 4, 2) := by decide +kernel
theorem d_Mo_set_7 : decode c0_Mo_set 7 = .ok (.iload 4, 2) := by decide +kernel
theorem d_Mo_set_9 : decode c0_Mo_set 9 = .ok (.sipush 1024, 3) := by decide +kernel
theorem d_Mo_set_12 : decode c0_Mo_set 12 = .ok (.if_icmp .ge 34, 3) := by decide +kernel
theorem d_Mo_set_15 : decode c0_Mo_set 15 = .ok (.aload_n 0, 1) := by decide +kernel
theorem d_Mo_set_16 : decode c0_Mo_set 16 = .ok (.getfield 43, 3) := by decide +kernel
theorem d_Mo_set_19 : decode c0_Mo_set 19 = .ok (.iload 4, 2) := by decide +kernel
theorem d_Mo_set_21 : decode c0_Mo_set 21 = .ok (.baload, 1) := by decide +kernel
theorem d_Mo_set_22 : decode c0_Mo_set 22 = .ok (.ifCond .eq 18, 3) := by decide +kernel
theorem d_Mo_set_25 : decode c0_Mo_set 25 = .ok (.iload_n 2, 1) := by decide +kernel
theorem d_Mo_set_26 : decode c0_Mo_set 26 = .ok (.iload_n 1, 1) := by decide +kernel
theorem d_Mo_set_27 : decode c0_Mo_set 27 = .ok (.if_icmp .ne 8, 3) := by decide +kernel
theorem d_Mo_set_30 : decode c0_Mo_set 30 = .ok (.iload 4, 2) := by decide +kernel
theorem d_Mo_set_32 : decode c0_Mo_set 32 = .ok (.goto 4, 3) := by decide +kernel
theorem d_Mo_set_35 : decode c0_Mo_set 35 = .ok (.iload_n 3, 1) := by decide +kernel
theorem d_Mo_set_36 : decode c0_Mo_set 36 = .ok (.istore_n 3, 1) := by decide +kernel
theorem d_Mo_set_37 : decode c0_Mo_set 37 = .ok (.iinc 2 1, 3) := by decide +kernel
theorem d_Mo_set_40 : decode c0_Mo_set 40 = .ok (.iinc 4 1, 3) := by decide +kernel
theorem d_Mo_set_43 : decode c0_Mo_set 43 = .ok (.goto (-36), 3) := by decide +kernel
theorem d_Mo_set_46 : decode c0_Mo_set 46 = .ok (.iload_n 3, 1) := by decide +kernel
theorem d_Mo_set_47 : decode c0_Mo_set 47 = .ok (.ireturn, 1) := by decide +kernel
def b_Mo_set_40 (K : Nat → ClassId) (N : Nat) (k7 : Int32 → Int32 → Int32 → Int32 → fh_H → Option (Int32 × fh_H)) (o : Nat) (v1 : Int32) (v2 : Int32) (v3 : Int32) (v4 : Int32) (h : fh_H) : Option (Int32 × fh_H) :=
  (some (v4 + 1)).bind fun x1 => k7 v1 v2 v3 x1 h
def b_Mo_set_36 (K : Nat → ClassId) (N : Nat) (k7 : Int32 → Int32 → Int32 → Int32 → fh_H → Option (Int32 × fh_H)) (o : Nat) (v1 : Int32) (v2 : Int32) (v4 : Int32) (w0 : Int32) (h : fh_H) : Option (Int32 × fh_H) :=
  (some (v2 + 1)).bind fun x1 => b_Mo_set_40 K N k7 o v1 x1 w0 v4 h
def b_Mo_set_7 (K : Nat → ClassId) (N : Nat) (k7 : Int32 → Int32 → Int32 → Int32 → fh_H → Option (Int32 × fh_H)) (o : Nat) (v1 : Int32) (v2 : Int32) (v3 : Int32) (v4 : Int32) (h : fh_H) : Option (Int32 × fh_H) :=
  if 1024 ≤ v4 then (some (v3, h)) else ((fg_a h (some o) 6 21).bind fun x1 => (fa_i (K 2) h x1 v4).bind fun x2 => if x2 = 0 then (b_Mo_set_40 K N k7 o v1 v2 v3 v4 h) else (if v2 = v1 then (b_Mo_set_36 K N k7 o v1 v2 v4 v4 h) else (b_Mo_set_36 K N k7 o v1 v2 v4 v3 h)))
def l_Mo_set_7 (K : Nat → ClassId) (N : Nat) (o : Nat) : Nat → Int32 → Int32 → Int32 → Int32 → fh_H → Option (Int32 × fh_H)
  | 0, _, _, _, _, _ => none
  | n + 1, v1, v2, v3, v4, h => b_Mo_set_7 K N (l_Mo_set_7 K N o n) o v1 v2 v3 v4 h
def f_Mo_set (K : Nat → ClassId) (N : Nat) (o : Nat) (a1 : Int32) (h0 : fh_H) : Option (Int32 × fh_H) :=
  l_Mo_set_7 K N o N a1 0 (-1) 0 h0
set_option maxHeartbeats 4000000 in
set_option maxRecDepth 100000 in
theorem c_Mo_set {l : Launch} {D : va_G} {K : Nat → ClassId} {t : Nat → Nat} {N : Nat} {o : Nat} {a1 : Int32} {h0 : fh_H} {res : Int32 × fh_H} (hf : f_Mo_set K N o a1 h0 = some res) : fC l D K t y_Mo_set c0_Mo_set 5 (some .int) rm_Mo_set [.ref o, .int a1] h0 (some (.int res.1)) res.2 := by
  refine fh_body (by decide) (Nat.le_of_ble_eq_true rfl) ?_
  intro p e s m below meth c A ls S hr hk hnm hE hAe hI hl
  obtain ⟨hx, hb, hml, hown, hts⟩ := id S
  have hl : lv_has ls 5 [(0, va_rf (some o)), (1, .int a1)] := hl
  have L7 : ∀ (n7 : Nat) (v1 : Int32) (v2 : Int32) (v3 : Int32) (v4 : Int32) (h : fh_H) (H : Heap) (locs : List Loc) (ls : Array Slot), lv_has ls 5 [(0, va_rf (some o)), (1, .int v1), (2, .int v2), (3, .int v3), (4, .int v4)] → fh_I D classes A s.heap h H locs → l_Mo_set_7 K N o n7 v1 v2 v3 v4 h = some res → W p l e rm_Mo_set s m [.ref o, .int a1].toArray below meth c H locs 0 0 (MQ below (fh_Q D classes h0 s.heap.size (some (.int res.1)) res.2) [.ref o, .int a1].toArray s 0 0 A) (F0 m 7 ls []) := by
    intro n7
    induction n7 with
    | zero =>
      intro v1 v2 v3 v4 h H locs ls hl hI hf
      exact fh_no hf
    | succ n7 ih7 =>
      have B40 : ∀ (v1 : Int32) (v2 : Int32) (v3 : Int32) (v4 : Int32) (h : fh_H) (H : Heap) (locs : List Loc) (ls : Array Slot), lv_has ls 5 [(0, va_rf (some o)), (1, .int v1), (2, .int v2), (3, .int v3), (4, .int v4)] → fh_I D classes A s.heap h H locs → b_Mo_set_40 K N (l_Mo_set_7 K N o n7) o v1 v2 v3 v4 h = some res → W p l e rm_Mo_set s m [.ref o, .int a1].toArray below meth c H locs 0 0 (MQ below (fh_Q D classes h0 s.heap.size (some (.int res.1)) res.2) [.ref o, .int a1].toArray s 0 0 A) (F0 m 40 ls []) := by
        intro v1 v2 v3 v4 h H locs ls hl hI hf
        unfold b_Mo_set_40 at hf
        obtain ⟨x1, e_x1, hf⟩ := fh_b hf
        refine lv_iinc (v := x1) (lv' := [(4, .int x1), (0, va_rf (some o)), (1, .int v1), (2, .int v2), (3, .int v3)]) hx hb d_Mo_set_40 hl (k := 4) rfl (by rw [fh_qe e_x1]; rfl) (by decide) rfl (fun ls hl => ?_)
        refine lv_goto (tgt := 7) hx hb d_Mo_set_43 (by decide) ?_
        exact ih7 v1 v2 v3 x1 h _ _ _ (lv_sub hl [1, 2, 3, 4, 0] rfl) hI hf
      have B36 : ∀ (v1 : Int32) (v2 : Int32) (v4 : Int32) (w0 : Int32) (h : fh_H) (H : Heap) (locs : List Loc) (ls : Array Slot), lv_has ls 5 [(0, va_rf (some o)), (1, .int v1), (2, .int v2), (4, .int v4)] → fh_I D classes A s.heap h H locs → b_Mo_set_36 K N (l_Mo_set_7 K N o n7) o v1 v2 v4 w0 h = some res → W p l e rm_Mo_set s m [.ref o, .int a1].toArray below meth c H locs 0 0 (MQ below (fh_Q D classes h0 s.heap.size (some (.int res.1)) res.2) [.ref o, .int a1].toArray s 0 0 A) (F0 m 36 ls [.int w0]) := by
        intro v1 v2 v4 w0 h H locs ls hl hI hf
        unfold b_Mo_set_36 at hf
        refine lv_istore_n (lv' := [(3, .int w0), (0, va_rf (some o)), (1, .int v1), (2, .int v2), (4, .int v4)]) hx hb d_Mo_set_36 rfl hl (by decide) rfl (fun ls hl => ?_)
        obtain ⟨x1, e_x1, hf⟩ := fh_b hf
        refine lv_iinc (v := x1) (lv' := [(2, .int x1), (3, .int w0), (0, va_rf (some o)), (1, .int v1), (4, .int v4)]) hx hb d_Mo_set_37 hl (k := 3) rfl (by rw [fh_qe e_x1]; rfl) (by decide) rfl (fun ls hl => ?_)
        exact B40 v1 x1 w0 v4 h _ _ _ (lv_sub hl [2, 3, 0, 1, 4] rfl) hI hf
      intro v1 v2 v3 v4 h H locs ls hl hI hf
      have hf : b_Mo_set_7 K N (l_Mo_set_7 K N o n7) o v1 v2 v3 v4 h = some res := hf
      unfold b_Mo_set_7 at hf
      refine lv_iload hx hb d_Mo_set_7 (lv_at hl 4 rfl) ?_
      refine lv_sipush (v := 1024) hx hb d_Mo_set_9 (by decide) ?_
      refine lv_icmp_ge (tgt := 46) hx hb d_Mo_set_12 (by decide) (fun c_12 => ?_) (fun c_12 => ?_)
      · replace hf := fh_t c_12 hf
        refine lv_iload_n hx hb d_Mo_set_46 rfl (lv_at hl 3 rfl) ?_
        obtain rfl := Option.some.inj hf
        exact fh_iret S hr hk rfl hAe hI d_Mo_set_47
      · replace hf := fh_f c_12 hf
        refine fh_aload_n S d_Mo_set_15 rfl (lv_at hl 0 rfl) ?_
        obtain ⟨x1, e_x1, hf⟩ := fh_b hf
        refine fh_geta S hE.1 hI e_x1 (hc := rfl) (hin := in_6) (by decide) (hts _ k_206) d_Mo_set_16 ?_
        refine lv_iload hx hb d_Mo_set_19 (lv_at hl 4 rfl) ?_
        obtain ⟨x2, e_x2, hf⟩ := fh_b hf
        refine fh_zald S hE.1 hI 2 rfl e_x2 d_Mo_set_21 ?_
        refine lv_if_eq (tgt := 40) hx hb d_Mo_set_22 (by decide) (fun c_22 => ?_) (fun c_22 => ?_)
        · replace hf := fh_t c_22 hf
          exact B40 v1 v2 v3 v4 h _ _ _ (lv_sub hl [0, 1, 2, 3, 4] rfl) hI hf
        · replace hf := fh_f c_22 hf
          refine lv_iload_n hx hb d_Mo_set_25 rfl (lv_at hl 2 rfl) ?_
          refine lv_iload_n hx hb d_Mo_set_26 rfl (lv_at hl 1 rfl) ?_
          refine lv_icmp_ne (tgt := 35) hx hb d_Mo_set_27 (by decide) (fun c_27 => ?_) (fun c_27 => ?_)
          · replace hf := fh_f c_27 hf
            refine lv_iload_n hx hb d_Mo_set_35 rfl (lv_at hl 3 rfl) ?_
            exact B36 v1 v2 v4 v3 h _ _ _ (lv_sub hl [0, 1, 2, 4] rfl) hI hf
          · replace hf := fh_t c_27 hf
            refine lv_iload hx hb d_Mo_set_30 (lv_at hl 4 rfl) ?_
            refine lv_goto (tgt := 36) hx hb d_Mo_set_32 (by decide) ?_
            exact B36 v1 v2 v4 v4 h _ _ _ (lv_sub hl [0, 1, 2, 4] rfl) hI hf
  unfold f_Mo_set at hf
  refine lv_iconst (v := 0) hx hb d_Mo_set_0 (by decide) ?_
  refine lv_istore_n (lv' := [(2, .int 0), (0, va_rf (some o)), (1, .int a1)]) hx hb d_Mo_set_1 rfl hl (by decide) rfl (fun ls hl => ?_)
  refine lv_iconst (v := (-1)) hx hb d_Mo_set_2 (by decide) ?_
  refine lv_istore_n (lv' := [(3, .int (-1)), (2, .int 0), (0, va_rf (some o)), (1, .int a1)]) hx hb d_Mo_set_3 rfl hl (by decide) rfl (fun ls hl => ?_)
  refine lv_iconst (v := 0) hx hb d_Mo_set_4 (by decide) ?_
  refine lv_istore (lv' := [(4, .int 0), (3, .int (-1)), (2, .int 0), (0, va_rf (some o)), (1, .int a1)]) hx hb d_Mo_set_5 hl (by decide) rfl (fun ls hl => ?_)
  exact L7 N a1 0 (-1) 0 h0 _ _ _ (lv_sub hl [3, 4, 2, 1, 0] rfl) hI hf
