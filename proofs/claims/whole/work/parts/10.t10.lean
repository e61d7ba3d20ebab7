theorem d_Mo_lineOf_0 : decode c0_Mo_lineOf 0 = .ok (.iconst 0, 1) := by decide +kernel
theorem d_Mo_lineOf_1 : decode c0_Mo_lineOf 1 = .ok (.istore_n 3, 1) := by decide +kernel
theorem d_Mo_lineOf_2 : decode c0_Mo_lineOf 2 = .ok (.iconst 0, 1) := by decide +kernel
theorem d_Mo_lineOf_3 : decode c0_Mo_lineOf 3 = .ok (.istore 4, 2) := by decide +kernel
theorem d_Mo_lineOf_5 : decode c0_Mo_lineOf 5 = .ok (.iload 4, 2) := by decide +kernel
theorem d_Mo_lineOf_7 : decode c0_Mo_lineOf 7 = .ok (.aload_n 0, 1) := by decide +kernel
theorem d_Mo_lineOf_8 : decode c0_Mo_lineOf 8 = .ok (.getfield 131, 3) := by decide +kernel
theorem d_Mo_lineOf_11 : decode c0_Mo_lineOf 11 = .ok (.if_icmp .ge 71, 3) := by decide +kernel
theorem d_Mo_lineOf_14 : decode c0_Mo_lineOf 14 = .ok (.aload_n 0, 1) := by decide +kernel
theorem d_Mo_lineOf_15 : decode c0_Mo_lineOf 15 = .ok (.iload_n 1, 1) := by decide +kernel
theorem d_Mo_lineOf_16 : decode c0_Mo_lineOf 16 = .ok (.iload_n 2, 1) := by decide +kernel
theorem d_Mo_lineOf_17 : decode c0_Mo_lineOf 17 = .ok (.iload 4, 2) := by decide +kernel
theorem d_Mo_lineOf_19 : decode c0_Mo_lineOf 19 = .ok (.iconst 0, 1) := by decide +kernel
theorem d_Mo_lineOf_20 : decode c0_Mo_lineOf 20 = .ok (.iconst 0, 1) := by decide +kernel
theorem d_Mo_lineOf_21 : decode c0_Mo_lineOf 21 = .ok (.iconst 0, 1) := by decide +kernel
theorem d_Mo_lineOf_22 : decode c0_Mo_lineOf 22 = .ok (.invokevirtual 198, 3) := by decide +kernel
theorem d_Mo_lineOf_25 : decode c0_Mo_lineOf 25 = .ok (.aload_n 0, 1) := by decide +kernel
theorem d_Mo_lineOf_26 : decode c0_Mo_lineOf 26 = .ok (.getfield 36, 3) := by decide +kernel
theorem d_Mo_lineOf_29 : decode c0_Mo_lineOf 29 = .ok (.bipush 10, 2) := by decide +kernel
theorem d_Mo_lineOf_31 : decode c0_Mo_lineOf 31 = .ok (.iload_n 1, 1) := by decide +kernel
theorem d_Mo_lineOf_32 : decode c0_Mo_lineOf 32 = .ok (.imul, 1) := by decide +kernel
theorem d_Mo_lineOf_33 : decode c0_Mo_lineOf 33 = .ok (.iload 4, 2) := by decide +kernel
theorem d_Mo_lineOf_35 : decode c0_Mo_lineOf 35 = .ok (.iadd, 1) := by decide +kernel
theorem d_Mo_lineOf_36 : decode c0_Mo_lineOf 36 = .ok (.baload, 1) := by decide +kernel
theorem d_Mo_lineOf_37 : decode c0_Mo_lineOf 37 = .ok (.ifCond .ne 28, 3) := by decide +kernel
theorem d_Mo_lineOf_40 : decode c0_Mo_lineOf 40 = .ok (.aload_n 0, 1) := by decide +kernel
theorem d_Mo_lineOf_41 : decode c0_Mo_lineOf 41 = .ok (.getfield 36, 3) := by decide +kernel
theorem d_Mo_lineOf_44 : decode c0_Mo_lineOf 44 = .ok (.bipush 10, 2) := by decide +kernel
theorem d_Mo_lineOf_46 : decode c0_Mo_lineOf 46 = .ok (.iload_n 2, 1) := by decide +kernel
theorem d_Mo_lineOf_47 : decode c0_Mo_lineOf 47 = .ok (.imul, 1) := by decide +kernel
theorem d_Mo_lineOf_48 : decode c0_Mo_lineOf 48 = .ok (.iload 4, 2) := by decide +kernel
theorem d_Mo_lineOf_50 : decode c0_Mo_lineOf 50 = .ok (.iadd, 1) := by decide +kernel
theorem d_Mo_lineOf_51 : decode c0_Mo_lineOf 51 = .ok (.baload, 1) := by decide +kernel
theorem d_Mo_lineOf_52 : decode c0_Mo_lineOf 52 = .ok (.ifCond .ne 13, 3) := by decide +kernel
theorem d_Mo_lineOf_55 : decode c0_Mo_lineOf 55 = .ok (.aload_n 0, 1) := by decide +kernel
theorem d_Mo_lineOf_56 : decode c0_Mo_lineOf 56 = .ok (.iconst 1, 1) := by decide +kernel
theorem d_Mo_lineOf_57 : decode c0_Mo_lineOf 57 = .ok (.iconst 0, 1) := by decide +kernel
theorem d_Mo_lineOf_58 : decode c0_Mo_lineOf 58 = .ok (.iconst 0, 1) := by decide +kernel
theorem d_Mo_lineOf_59 : decode c0_Mo_lineOf 59 = .ok (.invokevirtual 185, 3) := by decide +kernel
theorem d_Mo_lineOf_62 : decode c0_Mo_lineOf 62 = .ok (.ifCond .eq 12, 3) := by decide +kernel
theorem d_Mo_lineOf_65 : decode c0_Mo_lineOf 65 = .ok (.iload_n 3, 1) := by decide +kernel
theorem d_Mo_lineOf_66 : decode c0_Mo_lineOf 66 = .ok (.iconst 1, 1) := by decide +kernel
theorem d_Mo_lineOf_67 : decode c0_Mo_lineOf 67 = .ok (.iload 4, 2) := by decide +kernel
theorem d_Mo_lineOf_69 : decode c0_Mo_lineOf 69 = .ok (.ishl, 1) := by decide +kernel
theorem d_Mo_lineOf_70 : decode c0_Mo_lineOf 70 = .ok (.ior, 1) := by decide +kernel
theorem d_Mo_lineOf_71 : decode c0_Mo_lineOf 71 = .ok (.goto 4, 3) := by decide +kernel
theorem d_Mo_lineOf_74 : decode c0_Mo_lineOf 74 = .ok (.iload_n 3, 1) := by decide +kernel
theorem d_Mo_lineOf_75 : decode c0_Mo_lineOf 75 = .ok (.istore_n 3, 1) := by decide +kernel
theorem d_Mo_lineOf_76 : decode c0_Mo_lineOf 76 = .ok (.iinc 4 1, 3) := by decide +kernel
theorem d_Mo_lineOf_79 : decode c0_Mo_lineOf 79 = .ok (.goto (-74), 3) := by decide +kernel
theorem d_Mo_lineOf_82 : decode c0_Mo_lineOf 82 = .ok (.iload_n 3, 1) := by decide +kernel
theorem d_Mo_lineOf_83 : decode c0_Mo_lineOf 83 = .ok (.ireturn, 1) := by decide +kernel
def b_Mo_lineOf_75 (K : Nat → ClassId) (N : Nat) (k5 : Int32 → Int32 → Int32 → Int32 → fh_H → Option (Int32 × fh_H)) (o : Nat) (v1 : Int32) (v2 : Int32) (v4 : Int32) (w0 : Int32) (h : fh_H) : Option (Int32 × fh_H) :=
  (some (v4 + 1)).bind fun x1 => k5 v1 v2 w0 x1 h
def b_Mo_lineOf_65 (K : Nat → ClassId) (N : Nat) (k5 : Int32 → Int32 → Int32 → Int32 → fh_H → Option (Int32 × fh_H)) (o : Nat) (v1 : Int32) (v2 : Int32) (v3 : Int32) (v4 : Int32) (h : fh_H) : Option (Int32 × fh_H) :=
  b_Mo_lineOf_75 K N k5 o v1 v2 v4 (v3 ||| ((1 : Int32) <<< (v4 &&& 31))) h
def b_Mo_lineOf_5 (K : Nat → ClassId) (N : Nat) (k5 : Int32 → Int32 → Int32 → Int32 → fh_H → Option (Int32 × fh_H)) (o : Nat) (v1 : Int32) (v2 : Int32) (v3 : Int32) (v4 : Int32) (h : fh_H) : Option (Int32 × fh_H) :=
  (fg_i h (some o) 6 0).bind fun x1 => if x1 ≤ v4 then (some (v3, h)) else ((fg_o h (some o) 6).bind fun o2 => (f_Mo_setRow K N o2 v1 v2 v4 0 0 0 h).bind fun r3 => (fg_a r3 (some o) 6 16).bind fun x4 => (fa_i (K 2) r3 x4 ((10 * v1) + v4)).bind fun x5 => if x5 = 0 then ((fg_a r3 (some o) 6 16).bind fun x6 => (fa_i (K 2) r3 x6 ((10 * v2) + v4)).bind fun x7 => if x7 = 0 then ((fg_o r3 (some o) 6).bind fun o8 => (f_Mo_isAlways K N o8 1 0 0 r3).bind fun r9 => if r9.1 = 0 then (b_Mo_lineOf_75 K N k5 o v1 v2 v4 v3 r9.2) else (b_Mo_lineOf_65 K N k5 o v1 v2 v3 v4 r9.2)) else (b_Mo_lineOf_65 K N k5 o v1 v2 v3 v4 r3)) else (b_Mo_lineOf_65 K N k5 o v1 v2 v3 v4 r3))
def l_Mo_lineOf_5 (K : Nat → ClassId) (N : Nat) (o : Nat) : Nat → Int32 → Int32 → Int32 → Int32 → fh_H → Option (Int32 × fh_H)
  | 0, _, _, _, _, _ => none
  | n + 1, v1, v2, v3, v4, h => b_Mo_lineOf_5 K N (l_Mo_lineOf_5 K N o n) o v1 v2 v3 v4 h
def f_Mo_lineOf (K : Nat → ClassId) (N : Nat) (o : Nat) (a1 : Int32) (a2 : Int32) (h0 : fh_H) : Option (Int32 × fh_H) :=
  l_Mo_lineOf_5 K N o N a1 a2 0 0 h0
set_option maxHeartbeats 4000000 in
set_option maxRecDepth 100000 in
theorem c_Mo_lineOf {l : Launch} {D : va_G} {K : Nat → ClassId} {t : Nat → Nat} {N : Nat} {o : Nat} {a1 : Int32} {a2 : Int32} {h0 : fh_H} {res : Int32 × fh_H} (hf : f_Mo_lineOf K N o a1 a2 h0 = some res) : fC l D K t y_Mo_lineOf c0_Mo_lineOf 5 (some .int) rm_Mo_lineOf [.ref o, .int a1, .int a2] h0 (some (.int res.1)) res.2 := by
  refine fh_body (by decide) (Nat.le_of_ble_eq_true rfl) ?_
  intro p e s m below meth c A ls S hr hk hnm hE hAe hI hl
  obtain ⟨hx, hb, hml, hown, hts⟩ := id S
  have hl : lv_has ls 5 [(0, va_rf (some o)), (1, .int a1), (2, .int a2)] := hl
  have L5 : ∀ (n5 : Nat) (v1 : Int32) (v2 : Int32) (v3 : Int32) (v4 : Int32) (h : fh_H) (H : Heap) (locs : List Loc) (ls : Array Slot), lv_has ls 5 [(0, va_rf (some o)), (1, .int v1), (2, .int v2), (3, .int v3), (4, .int v4)] → fh_I D classes A s.heap h H locs → l_Mo_lineOf_5 K N o n5 v1 v2 v3 v4 h = some res → W p l e rm_Mo_lineOf s m [.ref o, .int a1, .int a2].toArray below meth c H locs 0 0 (MQ below (fh_Q D classes h0 s.heap.size (some (.int res.1)) res.2) [.ref o, .int a1, .int a2].toArray s 0 0 A) (F0 m 5 ls []) := by
    intro n5
    induction n5 with
    | zero =>
      intro v1 v2 v3 v4 h H locs ls hl hI hf
      exact fh_no hf
    | succ n5 ih5 =>
      have B75 : ∀ (v1 : Int32) (v2 : Int32) (v4 : Int32) (w0 : Int32) (h : fh_H) (H : Heap) (locs : List Loc) (ls : Array Slot), lv_has ls 5 [(0, va_rf (some o)), (1, .int v1), (2, .int v2), (4, .int v4)] → fh_I D classes A s.heap h H locs → b_Mo_lineOf_75 K N (l_Mo_lineOf_5 K N o n5) o v1 v2 v4 w0 h = some res → W p l e rm_Mo_lineOf s m [.ref o, .int a1, .int a2].toArray below meth c H locs 0 0 (MQ below (fh_Q D classes h0 s.heap.size (some (.int res.1)) res.2) [.ref o, .int a1, .int a2].toArray s 0 0 A) (F0 m 75 ls [.int w0]) := by
        intro v1 v2 v4 w0 h H locs ls hl hI hf
        unfold b_Mo_lineOf_75 at hf
        refine lv_istore_n (lv' := [(3, .int w0), (0, va_rf (some o)), (1, .int v1), (2, .int v2), (4, .int v4)]) hx hb d_Mo_lineOf_75 rfl hl (by decide) rfl (fun ls hl => ?_)
        obtain ⟨x1, e_x1, hf⟩ := fh_b hf
        refine lv_iinc (v := x1) (lv' := [(4, .int x1), (3, .int w0), (0, va_rf (some o)), (1, .int v1), (2, .int v2)]) hx hb d_Mo_lineOf_76 hl (k := 4) rfl (by rw [fh_qe e_x1]; rfl) (by decide) rfl (fun ls hl => ?_)
        refine lv_goto (tgt := 5) hx hb d_Mo_lineOf_79 (by decide) ?_
        exact ih5 v1 v2 w0 x1 h _ _ _ (lv_sub hl [2, 3, 4, 1, 0] rfl) hI hf
      have B65 : ∀ (v1 : Int32) (v2 : Int32) (v3 : Int32) (v4 : Int32) (h : fh_H) (H : Heap) (locs : List Loc) (ls : Array Slot), lv_has ls 5 [(0, va_rf (some o)), (1, .int v1), (2, .int v2), (3, .int v3), (4, .int v4)] → fh_I D classes A s.heap h H locs → b_Mo_lineOf_65 K N (l_Mo_lineOf_5 K N o n5) o v1 v2 v3 v4 h = some res → W p l e rm_Mo_lineOf s m [.ref o, .int a1, .int a2].toArray below meth c H locs 0 0 (MQ below (fh_Q D classes h0 s.heap.size (some (.int res.1)) res.2) [.ref o, .int a1, .int a2].toArray s 0 0 A) (F0 m 65 ls []) := by
        intro v1 v2 v3 v4 h H locs ls hl hI hf
        unfold b_Mo_lineOf_65 at hf
        refine lv_iload_n hx hb d_Mo_lineOf_65 rfl (lv_at hl 3 rfl) ?_
        refine lv_iconst (v := 1) hx hb d_Mo_lineOf_66 (by decide) ?_
        refine lv_iload hx hb d_Mo_lineOf_67 (lv_at hl 4 rfl) ?_
        refine lv_ishl hx hb d_Mo_lineOf_69 ?_
        refine lv_ior hx hb d_Mo_lineOf_70 ?_
        refine lv_goto (tgt := 75) hx hb d_Mo_lineOf_71 (by decide) ?_
        exact B75 v1 v2 v4 (v3 ||| ((1 : Int32) <<< (v4 &&& 31))) h _ _ _ (lv_sub hl [0, 1, 2, 4] rfl) hI hf
      intro v1 v2 v3 v4 h H locs ls hl hI hf
      have hf : b_Mo_lineOf_5 K N (l_Mo_lineOf_5 K N o n5) o v1 v2 v3 v4 h = some res := hf
      unfold b_Mo_lineOf_5 at hf
      refine lv_iload hx hb d_Mo_lineOf_5 (lv_at hl 4 rfl) ?_
      refine fh_aload_n S d_Mo_lineOf_7 rfl (lv_at hl 0 rfl) ?_
      obtain ⟨x1, e_x1, hf⟩ := fh_b hf
      refine fh_geti S hE.1 hI e_x1 (hc := rfl) (hin := in_6) (by decide) (hts _ k_163) d_Mo_lineOf_8 ?_
      refine lv_icmp_ge (tgt := 82) hx hb d_Mo_lineOf_11 (by decide) (fun c_11 => ?_) (fun c_11 => ?_)
      · replace hf := fh_t c_11 hf
        refine lv_iload_n hx hb d_Mo_lineOf_82 rfl (lv_at hl 3 rfl) ?_
        obtain rfl := Option.some.inj hf
        exact fh_iret S hr hk rfl hAe hI d_Mo_lineOf_83
      · replace hf := fh_f c_11 hf
        refine fh_aload_n S d_Mo_lineOf_14 rfl (lv_at hl 0 rfl) ?_
        refine lv_iload_n hx hb d_Mo_lineOf_15 rfl (lv_at hl 1 rfl) ?_
        refine lv_iload_n hx hb d_Mo_lineOf_16 rfl (lv_at hl 2 rfl) ?_
        refine lv_iload hx hb d_Mo_lineOf_17 (lv_at hl 4 rfl) ?_
        refine lv_iconst (v := 0) hx hb d_Mo_lineOf_19 (by decide) ?_
        refine lv_iconst (v := 0) hx hb d_Mo_lineOf_20 (by decide) ?_
        refine lv_iconst (v := 0) hx hb d_Mo_lineOf_21 (by decide) ?_
        obtain ⟨o2, e_o2, hf⟩ := fh_b hf
        obtain ⟨r3, e_r3, hf⟩ := fh_b hf
        refine fh_callV (As := [.int v1, .int v2, .int v4, .int 0, .int 0, .int 0]) (rest := []) S fT_good hE hI e_o2 rfl (c_Mo_setRow e_r3) fy_Mo_setRow fst_Mo_setRow k_184 ⟨rfl, rfl⟩ ⟨Nat.le_of_ble_eq_true rfl, Nat.le_of_ble_eq_true rfl⟩ ⟨Nat.zero_le _, Nat.zero_le _⟩ rfl hl.1 rfl (Nat.le_of_ble_eq_true rfl) d_Mo_lineOf_22 (fun H locs hI => ?_)
        refine fh_aload_n S d_Mo_lineOf_25 rfl (lv_at hl 0 rfl) ?_
        obtain ⟨x4, e_x4, hf⟩ := fh_b hf
        refine fh_geta S hE.1 hI e_x4 (hc := rfl) (hin := in_6) (by decide) (hts _ k_185) d_Mo_lineOf_26 ?_
        refine lv_bipush (v := 10) hx hb d_Mo_lineOf_29 (by decide) ?_
        refine lv_iload_n hx hb d_Mo_lineOf_31 rfl (lv_at hl 1 rfl) ?_
        refine lv_imul hx hb d_Mo_lineOf_32 ?_
        refine lv_iload hx hb d_Mo_lineOf_33 (lv_at hl 4 rfl) ?_
        refine lv_iadd hx hb d_Mo_lineOf_35 ?_
        obtain ⟨x5, e_x5, hf⟩ := fh_b hf
        refine fh_zald S hE.1 hI 2 rfl e_x5 d_Mo_lineOf_36 ?_
        refine lv_if_ne (tgt := 65) hx hb d_Mo_lineOf_37 (by decide) (fun c_37 => ?_) (fun c_37 => ?_)
        · replace hf := fh_f c_37 hf
          exact B65 v1 v2 v3 v4 r3 _ _ _ (lv_sub hl [0, 1, 2, 3, 4] rfl) hI hf
        · replace hf := fh_t c_37 hf
          refine fh_aload_n S d_Mo_lineOf_40 rfl (lv_at hl 0 rfl) ?_
          obtain ⟨x6, e_x6, hf⟩ := fh_b hf
          refine fh_geta S hE.1 hI e_x6 (hc := rfl) (hin := in_6) (by decide) (hts _ k_185) d_Mo_lineOf_41 ?_
          refine lv_bipush (v := 10) hx hb d_Mo_lineOf_44 (by decide) ?_
          refine lv_iload_n hx hb d_Mo_lineOf_46 rfl (lv_at hl 2 rfl) ?_
          refine lv_imul hx hb d_Mo_lineOf_47 ?_
          refine lv_iload hx hb d_Mo_lineOf_48 (lv_at hl 4 rfl) ?_
          refine lv_iadd hx hb d_Mo_lineOf_50 ?_
          obtain ⟨x7, e_x7, hf⟩ := fh_b hf
          refine fh_zald S hE.1 hI 2 rfl e_x7 d_Mo_lineOf_51 ?_
          refine lv_if_ne (tgt := 65) hx hb d_Mo_lineOf_52 (by decide) (fun c_52 => ?_) (fun c_52 => ?_)
          · replace hf := fh_f c_52 hf
            exact B65 v1 v2 v3 v4 r3 _ _ _ (lv_sub hl [0, 1, 2, 3, 4] rfl) hI hf
          · replace hf := fh_t c_52 hf
            refine fh_aload_n S d_Mo_lineOf_55 rfl (lv_at hl 0 rfl) ?_
            refine lv_iconst (v := 1) hx hb d_Mo_lineOf_56 (by decide) ?_
            refine lv_iconst (v := 0) hx hb d_Mo_lineOf_57 (by decide) ?_
            refine lv_iconst (v := 0) hx hb d_Mo_lineOf_58 (by decide) ?_
            obtain ⟨o8, e_o8, hf⟩ := fh_b hf
            obtain ⟨r9, e_r9, hf⟩ := fh_b hf
            refine fh_callV (As := [.int 1, .int 0, .int 0]) (rest := []) S fT_good hE hI e_o8 rfl (c_Mo_isAlways e_r9) fy_Mo_isAlways fst_Mo_isAlways k_186 ⟨rfl, rfl⟩ ⟨Nat.le_of_ble_eq_true rfl, Nat.le_of_ble_eq_true rfl⟩ ⟨Nat.zero_le _, Nat.zero_le _⟩ rfl hl.1 rfl (Nat.le_of_ble_eq_true rfl) d_Mo_lineOf_59 (fun H locs hI => ?_)
            refine lv_if_eq (tgt := 74) hx hb d_Mo_lineOf_62 (by decide) (fun c_62 => ?_) (fun c_62 => ?_)
            · replace hf := fh_t c_62 hf
              refine lv_iload_n hx hb d_Mo_lineOf_74 rfl (lv_at hl 3 rfl) ?_
              exact B75 v1 v2 v4 v3 r9.2 _ _ _ (lv_sub hl [0, 1, 2, 4] rfl) hI hf
            · replace hf := fh_f c_62 hf
              exact B65 v1 v2 v3 v4 r9.2 _ _ _ (lv_sub hl [0, 1, 2, 3, 4] rfl) hI hf
  unfold f_Mo_lineOf at hf
  refine lv_iconst (v := 0) hx hb d_Mo_lineOf_0 (by decide) ?_
  refine lv_istore_n (lv' := [(3, .int 0), (0, va_rf (some o)), (1, .int a1), (2, .int a2)]) hx hb d_Mo_lineOf_1 rfl hl (by decide) rfl (fun ls hl => ?_)
  refine lv_iconst (v := 0) hx hb d_Mo_lineOf_2 (by decide) ?_
  refine lv_istore (lv' := [(4, .int 0), (3, .int 0), (0, va_rf (some o)), (1, .int a1), (2, .int a2)]) hx hb d_Mo_lineOf_3 hl (by decide) rfl (fun ls hl => ?_)
  exact L5 N a1 a2 0 0 h0 _ _ _ (lv_sub hl [2, 3, 4, 1, 0] rfl) hI hf
theorem d_Mo_row_0 : decode c0_Mo_row 0 = .ok (.aload_n 0, 1) := by decide +kernel
theorem d_Mo_row_1 : decode c0_Mo_row 1 = .ok (.invokevirtual 244, 3) := by decide +kernel
theorem d_Mo_row_4 : decode c0_Mo_row 4 = .ok (.iconst 0, 1) := by decide +kernel
theorem d_Mo_row_5 : decode c0_Mo_row 5 = .ok (.istore_n 2, 1) := by decide +kernel
theorem d_Mo_row_6 : decode c0_Mo_row 6 = .ok (.iload_n 2, 1) := by decide +kernel
theorem d_Mo_row_7 : decode c0_Mo_row 7 = .ok (.aload_n 0, 1) := by decide +kernel
theorem d_Mo_row_8 : decode c0_Mo_row 8 = .ok (.getfield 131, 3) := by decide +kernel
theorem d_Mo_row_11 : decode c0_Mo_row 11 = .ok (.if_icmp .ge 81, 3) := by decide +kernel
theorem d_Mo_row_14 : decode c0_Mo_row 14 = .ok (.iload_n 2, 1) := by decide +kernel
theorem d_Mo_row_15 : decode c0_Mo_row 15 = .ok (.iconst 1, 1) := by decide +kernel
theorem d_Mo_row_16 : decode c0_Mo_row 16 = .ok (.iadd, 1) := by decide +kernel
theorem d_Mo_row_17 : decode c0_Mo_row 17 = .ok (.istore_n 3, 1) := by decide +kernel
theorem d_Mo_row_18 : decode c0_Mo_row 18 = .ok (.iload_n 3, 1) := by decide +kernel
theorem d_Mo_row_19 : decode c0_Mo_row 19 = .ok (.aload_n 0, 1) := by decide +kernel
theorem d_Mo_row_20 : decode c0_Mo_row 20 = .ok (.getfield 131, 3) := by decide +kernel
theorem d_Mo_row_23 : decode c0_Mo_row 23 = .ok (.if_icmp .ge 63, 3) := by decide +kernel
theorem d_Mo_row_26 : decode c0_Mo_row 26 = .ok (.aload_n 0, 1) := by decide +kernel
theorem d_Mo_row_27 : decode c0_Mo_row 27 = .ok (.getfield 36, 3) := by decide +kernel
theorem d_Mo_row_30 : decode c0_Mo_row 30 = .ok (.bipush 10, 2) := by decide +kernel
theorem d_Mo_row_32 : decode c0_Mo_row 32 = .ok (.iload_n 2, 1) := by decide +kernel
theorem d_Mo_row_33 : decode c0_Mo_row 33 = .ok (.imul, 1) := by decide +kernel
theorem d_Mo_row_34 : decode c0_Mo_row 34 = .ok (.iload_n 3, 1) := by decide +kernel
theorem d_Mo_row_35 : decode c0_Mo_row 35 = .ok (.iadd, 1) := by decide +kernel
theorem d_Mo_row_36 : decode c0_Mo_row 36 = .ok (.baload, 1) := by decide +kernel
theorem d_Mo_row_37 : decode c0_Mo_row 37 = .ok (.ifCond .ne 43, 3) := by decide +kernel
theorem d_Mo_row_40 : decode c0_Mo_row 40 = .ok (.aload_n 0, 1) := by decide +kernel
theorem d_Mo_row_41 : decode c0_Mo_row 41 = .ok (.iload_n 2, 1) := by decide +kernel
theorem d_Mo_row_42 : decode c0_Mo_row 42 = .ok (.iload_n 3, 1) := by decide +kernel
theorem d_Mo_row_43 : decode c0_Mo_row 43 = .ok (.invokevirtual 247, 3) := by decide +kernel
theorem d_Mo_row_46 : decode c0_Mo_row 46 = .ok (.istore 4, 2) := by decide +kernel
theorem d_Mo_row_48 : decode c0_Mo_row 48 = .ok (.aload_n 0, 1) := by decide +kernel
theorem d_Mo_row_49 : decode c0_Mo_row 49 = .ok (.getfield 43, 3) := by decide +kernel
theorem d_Mo_row_52 : decode c0_Mo_row 52 = .ok (.iload 4, 2) := by decide +kernel
theorem d_Mo_row_54 : decode c0_Mo_row 54 = .ok (.aload_n 0, 1) := by decide +kernel
theorem d_Mo_row_55 : decode c0_Mo_row 55 = .ok (.getfield 43, 3) := by decide +kernel
theorem d_Mo_row_58 : decode c0_Mo_row 58 = .ok (.iload 4, 2) := by decide +kernel
theorem d_Mo_row_60 : decode c0_Mo_row 60 = .ok (.baload, 1) := by decide +kernel
theorem d_Mo_row_61 : decode c0_Mo_row 61 = .ok (.ifCond .ne 13, 3) := by decide +kernel
theorem d_Mo_row_64 : decode c0_Mo_row 64 = .ok (.aload_n 0, 1) := by decide +kernel
theorem d_Mo_row_65 : decode c0_Mo_row 65 = .ok (.iload 4, 2) := by decide +kernel
theorem d_Mo_row_67 : decode c0_Mo_row 67 = .ok (.invokevirtual 166, 3) := by decide +kernel
theorem d_Mo_row_70 : decode c0_Mo_row 70 = .ok (.iconst 2, 1) := by decide +kernel
theorem d_Mo_row_71 : decode c0_Mo_row 71 = .ok (.if_icmp .le 7, 3) := by decide +kernel
theorem d_Mo_row_74 : decode c0_Mo_row 74 = .ok (.iconst 1, 1) := by decide +kernel
theorem d_Mo_row_75 : decode c0_Mo_row 75 = .ok (.goto 4, 3) := by decide +kernel
theorem d_Mo_row_78 : decode c0_Mo_row 78 = .ok (.iconst 0, 1) := by decide +kernel
theorem d_Mo_row_79 : decode c0_Mo_row 79 = .ok (.bastore, 1) := by decide +kernel
theorem d_Mo_row_80 : decode c0_Mo_row 80 = .ok (.iinc 3 1, 3) := by decide +kernel
theorem d_Mo_row_83 : decode c0_Mo_row 83 = .ok (.goto (-65), 3) := by decide +kernel
theorem d_Mo_row_86 : decode c0_Mo_row 86 = .ok (.iinc 2 1, 3) := by decide +kernel
theorem d_Mo_row_89 : decode c0_Mo_row 89 = .ok (.goto (-83), 3) := by decide +kernel
theorem d_Mo_row_92 : decode c0_Mo_row 92 = .ok (.aload_n 0, 1) := by decide +kernel
theorem d_Mo_row_93 : decode c0_Mo_row 93 = .ok (.iload_n 1, 1) := by decide +kernel
theorem d_Mo_row_94 : decode c0_Mo_row 94 = .ok (.invokevirtual 251, 3) := by decide +kernel
theorem d_Mo_row_97 : decode c0_Mo_row 97 = .ok (.ireturn, 1) := by decide +kernel
def b_Mo_row_80 (K : Nat → ClassId) (N : Nat) (k6 : Int32 → Int32 → fh_H → Option (Int32 × fh_H)) (k18 : Int32 → Int32 → Int32 → fh_H → Option (Int32 × fh_H)) (o : Nat) (v1 : Int32) (v2 : Int32) (v3 : Int32) (h : fh_H) : Option (Int32 × fh_H) :=
  (some (v3 + 1)).bind fun x1 => k18 v1 v2 x1 h
def b_Mo_row_79 (K : Nat → ClassId) (N : Nat) (k6 : Int32 → Int32 → fh_H → Option (Int32 × fh_H)) (k18 : Int32 → Int32 → Int32 → fh_H → Option (Int32 × fh_H)) (o : Nat) (v1 : Int32) (v2 : Int32) (v3 : Int32) (w0 : Option Nat) (w1 : Int32) (w2 : Int32) (h : fh_H) : Option (Int32 × fh_H) :=
  (fs_z (K 2) h w0 w1 w2).bind fun h1 => b_Mo_row_80 K N k6 k18 o v1 v2 v3 h1
def b_Mo_row_74 (K : Nat → ClassId) (N : Nat) (k6 : Int32 → Int32 → fh_H → Option (Int32 × fh_H)) (k18 : Int32 → Int32 → Int32 → fh_H → Option (Int32 × fh_H)) (o : Nat) (v1 : Int32) (v2 : Int32) (v3 : Int32) (w0 : Option Nat) (w1 : Int32) (h : fh_H) : Option (Int32 × fh_H) :=
  b_Mo_row_79 K N k6 k18 o v1 v2 v3 w0 w1 1 h
def b_Mo_row_18 (K : Nat → ClassId) (N : Nat) (k6 : Int32 → Int32 → fh_H → Option (Int32 × fh_H)) (k18 : Int32 → Int32 → Int32 → fh_H → Option (Int32 × fh_H)) (o : Nat) (v1 : Int32) (v2 : Int32) (v3 : Int32) (h : fh_H) : Option (Int32 × fh_H) :=
  (fg_i h (some o) 6 0).bind fun x1 => if x1 ≤ v3 then ((some (v2 + 1)).bind fun x2 => k6 v1 x2 h) else ((fg_a h (some o) 6 16).bind fun x3 => (fa_i (K 2) h x3 ((10 * v2) + v3)).bind fun x4 => if x4 = 0 then ((fg_o h (some o) 6).bind fun o5 => (f_Mo_lineOf K N o5 v2 v3 h).bind fun r6 => (fg_a r6.2 (some o) 6 21).bind fun x7 => (fg_a r6.2 (some o) 6 21).bind fun x8 => (fa_i (K 2) r6.2 x8 r6.1).bind fun x9 => if x9 = 0 then ((fg_o r6.2 (some o) 6).bind fun o10 => (f_Mo_places K N o10 r6.1 r6.2).bind fun r11 => if r11.1 ≤ 2 then (b_Mo_row_79 K N k6 k18 o v1 v2 v3 x7 r6.1 0 r11.2) else (b_Mo_row_74 K N k6 k18 o v1 v2 v3 x7 r6.1 r11.2)) else (b_Mo_row_74 K N k6 k18 o v1 v2 v3 x7 r6.1 r6.2)) else (b_Mo_row_80 K N k6 k18 o v1 v2 v3 h))
def l_Mo_row_18 (K : Nat → ClassId) (N : Nat) (k6 : Int32 → Int32 → fh_H → Option (Int32 × fh_H)) (o : Nat) : Nat → Int32 → Int32 → Int32 → fh_H → Option (Int32 × fh_H)
  | 0, _, _, _, _ => none
  | n + 1, v1, v2, v3, h => b_Mo_row_18 K N k6 (l_Mo_row_18 K N k6 o n) o v1 v2 v3 h
def b_Mo_row_6 (K : Nat → ClassId) (N : Nat) (k6 : Int32 → Int32 → fh_H → Option (Int32 × fh_H)) (o : Nat) (v1 : Int32) (v2 : Int32) (h : fh_H) : Option (Int32 × fh_H) :=
  (fg_i h (some o) 6 0).bind fun x1 => if x1 ≤ v2 then ((fg_o h (some o) 6).bind fun o2 => (f_Mo_set K N o2 v1 h).bind fun r3 => some (r3.1, r3.2)) else ((some (v2 + 1)).bind fun x4 => l_Mo_row_18 K N k6 o N v1 v2 x4 h)
def l_Mo_row_6 (K : Nat → ClassId) (N : Nat) (o : Nat) : Nat → Int32 → Int32 → fh_H → Option (Int32 × fh_H)
  | 0, _, _, _ => none
  | n + 1, v1, v2, h => b_Mo_row_6 K N (l_Mo_row_6 K N o n) o v1 v2 h
def f_Mo_row (K : Nat → ClassId) (N : Nat) (o : Nat) (a1 : Int32) (h0 : fh_H) : Option (Int32 × fh_H) :=
  (fg_o h0 (some o) 6).bind fun o1 => (f_Mo_clearSets K N o1 h0).bind fun r2 => l_Mo_row_6 K N o N a1 0 r2
set_option maxHeartbeats 4000000 in
set_option maxRecDepth 100000 in
theorem c_Mo_row {l : Launch} {D : va_G} {K : Nat → ClassId} {t : Nat → Nat} {N : Nat} {o : Nat} {a1 : Int32} {h0 : fh_H} {res : Int32 × fh_H} (hf : f_Mo_row K N o a1 h0 = some res) : fC l D K t y_Mo_row c0_Mo_row 5 (some .int) rm_Mo_row [.ref o, .int a1] h0 (some (.int res.1)) res.2 := by
  refine fh_body (by decide) (Nat.le_of_ble_eq_true rfl) ?_
  intro p e s m below meth c A ls S hr hk hnm hE hAe hI hl
  obtain ⟨hx, hb, hml, hown, hts⟩ := id S
  have hl : lv_has ls 5 [(0, va_rf (some o)), (1, .int a1)] := hl
  have L6 : ∀ (n6 : Nat) (v1 : Int32) (v2 : Int32) (h : fh_H) (H : Heap) (locs : List Loc) (ls : Array Slot), lv_has ls 5 [(0, va_rf (some o)), (1, .int v1), (2, .int v2)] → fh_I D classes A s.heap h H locs → l_Mo_row_6 K N o n6 v1 v2 h = some res → W p l e rm_Mo_row s m [.ref o, .int a1].toArray below meth c H locs 0 0 (MQ below (fh_Q D classes h0 s.heap.size (some (.int res.1)) res.2) [.ref o, .int a1].toArray s 0 0 A) (F0 m 6 ls []) := by
    intro n6
    induction n6 with
    | zero =>
      intro v1 v2 h H locs ls hl hI hf
      exact fh_no hf
    | succ n6 ih6 =>
      have L18 : ∀ (n18 : Nat) (v1 : Int32) (v2 : Int32) (v3 : Int32) (h : fh_H) (H : Heap) (locs : List Loc) (ls : Array Slot), lv_has ls 5 [(0, va_rf (some o)), (1, .int v1), (2, .int v2), (3, .int v3)] → fh_I D classes A s.heap h H locs → l_Mo_row_18 K N (l_Mo_row_6 K N o n6) o n18 v1 v2 v3 h = some res → W p l e rm_Mo_row s m [.ref o, .int a1].toArray below meth c H locs 0 0 (MQ below (fh_Q D classes h0 s.heap.size (some (.int res.1)) res.2) [.ref o, .int a1].toArray s 0 0 A) (F0 m 18 ls []) := by
        intro n18
        induction n18 with
        | zero =>
          intro v1 v2 v3 h H locs ls hl hI hf
          exact fh_no hf
        | succ n18 ih18 =>
          have B80 : ∀ (v1 : Int32) (v2 : Int32) (v3 : Int32) (h : fh_H) (H : Heap) (locs : List Loc) (ls : Array Slot), lv_has ls 5 [(0, va_rf (some o)), (1, .int v1), (2, .int v2), (3, .int v3)] → fh_I D classes A s.heap h H locs → b_Mo_row_80 K N (l_Mo_row_6 K N o n6) (l_Mo_row_18 K N (l_Mo_row_6 K N o n6) o n18) o v1 v2 v3 h = some res → W p l e rm_Mo_row s m [.ref o, .int a1].toArray below meth c H locs 0 0 (MQ below (fh_Q D classes h0 s.heap.size (some (.int res.1)) res.2) [.ref o, .int a1].toArray s 0 0 A) (F0 m 80 ls []) := by
            intro v1 v2 v3 h H locs ls hl hI hf
            unfold b_Mo_row_80 at hf
            obtain ⟨x1, e_x1, hf⟩ := fh_b hf
            refine lv_iinc (v := x1) (lv' := [(3, .int x1), (0, va_rf (some o)), (1, .int v1), (2, .int v2)]) hx hb d_Mo_row_80 hl (k := 3) rfl (by rw [fh_qe e_x1]; rfl) (by decide) rfl (fun ls hl => ?_)
            refine lv_goto (tgt := 18) hx hb d_Mo_row_83 (by decide) ?_
            exact ih18 v1 v2 x1 h _ _ _ (lv_sub hl [1, 2, 3, 0] rfl) hI hf
          have B79 : ∀ (v1 : Int32) (v2 : Int32) (v3 : Int32) (w0 : Option Nat) (w1 : Int32) (w2 : Int32) (h : fh_H) (H : Heap) (locs : List Loc) (ls : Array Slot), lv_has ls 5 [(0, va_rf (some o)), (1, .int v1), (2, .int v2), (3, .int v3)] → fh_I D classes A s.heap h H locs → b_Mo_row_79 K N (l_Mo_row_6 K N o n6) (l_Mo_row_18 K N (l_Mo_row_6 K N o n6) o n18) o v1 v2 v3 w0 w1 w2 h = some res → W p l e rm_Mo_row s m [.ref o, .int a1].toArray below meth c H locs 0 0 (MQ below (fh_Q D classes h0 s.heap.size (some (.int res.1)) res.2) [.ref o, .int a1].toArray s 0 0 A) (F0 m 79 ls [.int w2, .int w1, va_rf w0]) := by
            intro v1 v2 v3 w0 w1 w2 h H locs ls hl hI hf
            unfold b_Mo_row_79 at hf
            obtain ⟨h1, e_h1, hf⟩ := fh_b hf
            refine fh_zast S hE.1 hI 2 rfl e_h1 d_Mo_row_79 (fun H locs hI => ?_)
            exact B80 v1 v2 v3 h1 _ _ _ (lv_sub hl [0, 1, 2, 3] rfl) hI hf
          have B74 : ∀ (v1 : Int32) (v2 : Int32) (v3 : Int32) (w0 : Option Nat) (w1 : Int32) (h : fh_H) (H : Heap) (locs : List Loc) (ls : Array Slot), lv_has ls 5 [(0, va_rf (some o)), (1, .int v1), (2, .int v2), (3, .int v3)] → fh_I D classes A s.heap h H locs → b_Mo_row_74 K N (l_Mo_row_6 K N o n6) (l_Mo_row_18 K N (l_Mo_row_6 K N o n6) o n18) o v1 v2 v3 w0 w1 h = some res → W p l e rm_Mo_row s m [.ref o, .int a1].toArray below meth c H locs 0 0 (MQ below (fh_Q D classes h0 s.heap.size (some (.int res.1)) res.2) [.ref o, .int a1].toArray s 0 0 A) (F0 m 74 ls [.int w1, va_rf w0]) := by
            intro v1 v2 v3 w0 w1 h H locs ls hl hI hf
            unfold b_Mo_row_74 at hf
            refine lv_iconst (v := 1) hx hb d_Mo_row_74 (by decide) ?_
            refine lv_goto (tgt := 79) hx hb d_Mo_row_75 (by decide) ?_
            exact B79 v1 v2 v3 w0 w1 1 h _ _ _ (lv_sub hl [0, 1, 2, 3] rfl) hI hf
          intro v1 v2 v3 h H locs ls hl hI hf
          have hf : b_Mo_row_18 K N (l_Mo_row_6 K N o n6) (l_Mo_row_18 K N (l_Mo_row_6 K N o n6) o n18) o v1 v2 v3 h = some res := hf
          unfold b_Mo_row_18 at hf
          refine lv_iload_n hx hb d_Mo_row_18 rfl (lv_at hl 3 rfl) ?_
          refine fh_aload_n S d_Mo_row_19 rfl (lv_at hl 0 rfl) ?_
          obtain ⟨x1, e_x1, hf⟩ := fh_b hf
          refine fh_geti S hE.1 hI e_x1 (hc := rfl) (hin := in_6) (by decide) (hts _ k_163) d_Mo_row_20 ?_
          refine lv_icmp_ge (tgt := 86) hx hb d_Mo_row_23 (by decide) (fun c_23 => ?_) (fun c_23 => ?_)
          · replace hf := fh_t c_23 hf
            obtain ⟨x2, e_x2, hf⟩ := fh_b hf
            refine lv_iinc (v := x2) (lv' := [(2, .int x2), (0, va_rf (some o)), (1, .int v1), (3, .int v3)]) hx hb d_Mo_row_86 hl (k := 2) rfl (by rw [fh_qe e_x2]; rfl) (by decide) rfl (fun ls hl => ?_)
            refine lv_goto (tgt := 6) hx hb d_Mo_row_89 (by decide) ?_
            exact ih6 v1 x2 h _ _ _ (lv_sub hl [1, 2, 0] rfl) hI hf
          · replace hf := fh_f c_23 hf
            refine fh_aload_n S d_Mo_row_26 rfl (lv_at hl 0 rfl) ?_
            obtain ⟨x3, e_x3, hf⟩ := fh_b hf
            refine fh_geta S hE.1 hI e_x3 (hc := rfl) (hin := in_6) (by decide) (hts _ k_185) d_Mo_row_27 ?_
            refine lv_bipush (v := 10) hx hb d_Mo_row_30 (by decide) ?_
            refine lv_iload_n hx hb d_Mo_row_32 rfl (lv_at hl 2 rfl) ?_
            refine lv_imul hx hb d_Mo_row_33 ?_
            refine lv_iload_n hx hb d_Mo_row_34 rfl (lv_at hl 3 rfl) ?_
            refine lv_iadd hx hb d_Mo_row_35 ?_
            obtain ⟨x4, e_x4, hf⟩ := fh_b hf
            refine fh_zald S hE.1 hI 2 rfl e_x4 d_Mo_row_36 ?_
            refine lv_if_ne (tgt := 80) hx hb d_Mo_row_37 (by decide) (fun c_37 => ?_) (fun c_37 => ?_)
            · replace hf := fh_f c_37 hf
              exact B80 v1 v2 v3 h _ _ _ (lv_sub hl [0, 1, 2, 3] rfl) hI hf
            · replace hf := fh_t c_37 hf
              refine fh_aload_n S d_Mo_row_40 rfl (lv_at hl 0 rfl) ?_
              refine lv_iload_n hx hb d_Mo_row_41 rfl (lv_at hl 2 rfl) ?_
              refine lv_iload_n hx hb d_Mo_row_42 rfl (lv_at hl 3 rfl) ?_
              obtain ⟨o5, e_o5, hf⟩ := fh_b hf
              obtain ⟨r6, e_r6, hf⟩ := fh_b hf
              refine fh_callV (As := [.int v2, .int v3]) (rest := []) S fT_good hE hI e_o5 rfl (c_Mo_lineOf e_r6) fy_Mo_lineOf fst_Mo_lineOf k_208 ⟨rfl, rfl⟩ ⟨Nat.le_of_ble_eq_true rfl, Nat.le_of_ble_eq_true rfl⟩ ⟨Nat.zero_le _, Nat.zero_le _⟩ rfl hl.1 rfl (Nat.le_of_ble_eq_true rfl) d_Mo_row_43 (fun H locs hI => ?_)
              refine lv_istore (lv' := [(4, .int r6.1), (0, va_rf (some o)), (1, .int v1), (2, .int v2), (3, .int v3)]) hx hb d_Mo_row_46 hl (by decide) rfl (fun ls hl => ?_)
              refine fh_aload_n S d_Mo_row_48 rfl (lv_at hl 1 rfl) ?_
              obtain ⟨x7, e_x7, hf⟩ := fh_b hf
              refine fh_geta S hE.1 hI e_x7 (hc := rfl) (hin := in_6) (by decide) (hts _ k_206) d_Mo_row_49 ?_
              refine lv_iload hx hb d_Mo_row_52 (lv_at hl 0 rfl) ?_
              refine fh_aload_n S d_Mo_row_54 rfl (lv_at hl 1 rfl) ?_
              obtain ⟨x8, e_x8, hf⟩ := fh_b hf
              refine fh_geta S hE.1 hI e_x8 (hc := rfl) (hin := in_6) (by decide) (hts _ k_206) d_Mo_row_55 ?_
              refine lv_iload hx hb d_Mo_row_58 (lv_at hl 0 rfl) ?_
              obtain ⟨x9, e_x9, hf⟩ := fh_b hf
              refine fh_zald S hE.1 hI 2 rfl e_x9 d_Mo_row_60 ?_
              refine lv_if_ne (tgt := 74) hx hb d_Mo_row_61 (by decide) (fun c_61 => ?_) (fun c_61 => ?_)
              · replace hf := fh_f c_61 hf
                exact B74 v1 v2 v3 x7 r6.1 r6.2 _ _ _ (lv_sub hl [1, 2, 3, 4] rfl) hI hf
              · replace hf := fh_t c_61 hf
                refine fh_aload_n S d_Mo_row_64 rfl (lv_at hl 1 rfl) ?_
                refine lv_iload hx hb d_Mo_row_65 (lv_at hl 0 rfl) ?_
                obtain ⟨o10, e_o10, hf⟩ := fh_b hf
                obtain ⟨r11, e_r11, hf⟩ := fh_b hf
                refine fh_callV (As := [.int r6.1]) (rest := [.int r6.1, va_rf x7]) S fT_good hE hI e_o10 rfl (c_Mo_places e_r11) fy_Mo_places fst_Mo_places k_188 ⟨rfl, rfl⟩ ⟨Nat.le_of_ble_eq_true rfl, Nat.le_of_ble_eq_true rfl⟩ ⟨Nat.zero_le _, Nat.zero_le _⟩ rfl hl.1 rfl (Nat.le_trans (fh_cat _) (Nat.le_of_ble_eq_true rfl)) d_Mo_row_67 (fun H locs hI => ?_)
                refine lv_iconst (v := 2) hx hb d_Mo_row_70 (by decide) ?_
                refine lv_icmp_le (tgt := 78) hx hb d_Mo_row_71 (by decide) (fun c_71 => ?_) (fun c_71 => ?_)
                · replace hf := fh_t c_71 hf
                  refine lv_iconst (v := 0) hx hb d_Mo_row_78 (by decide) ?_
                  exact B79 v1 v2 v3 x7 r6.1 0 r11.2 _ _ _ (lv_sub hl [1, 2, 3, 4] rfl) hI hf
                · replace hf := fh_f c_71 hf
                  exact B74 v1 v2 v3 x7 r6.1 r11.2 _ _ _ (lv_sub hl [1, 2, 3, 4] rfl) hI hf
      intro v1 v2 h H locs ls hl hI hf
      have hf : b_Mo_row_6 K N (l_Mo_row_6 K N o n6) o v1 v2 h = some res := hf
      unfold b_Mo_row_6 at hf
      refine lv_iload_n hx hb d_Mo_row_6 rfl (lv_at hl 2 rfl) ?_
      refine fh_aload_n S d_Mo_row_7 rfl (lv_at hl 0 rfl) ?_
      obtain ⟨x1, e_x1, hf⟩ := fh_b hf
      refine fh_geti S hE.1 hI e_x1 (hc := rfl) (hin := in_6) (by decide) (hts _ k_163) d_Mo_row_8 ?_
      refine lv_icmp_ge (tgt := 92) hx hb d_Mo_row_11 (by decide) (fun c_11 => ?_) (fun c_11 => ?_)
      · replace hf := fh_t c_11 hf
        refine fh_aload_n S d_Mo_row_92 rfl (lv_at hl 0 rfl) ?_
        refine lv_iload_n hx hb d_Mo_row_93 rfl (lv_at hl 1 rfl) ?_
        obtain ⟨o2, e_o2, hf⟩ := fh_b hf
        obtain ⟨r3, e_r3, hf⟩ := fh_b hf
        refine fh_callV (As := [.int v1]) (rest := []) S fT_good hE hI e_o2 rfl (c_Mo_set e_r3) fy_Mo_set fst_Mo_set k_209 ⟨rfl, rfl⟩ ⟨Nat.le_of_ble_eq_true rfl, Nat.le_of_ble_eq_true rfl⟩ ⟨Nat.zero_le _, Nat.zero_le _⟩ rfl hl.1 rfl (Nat.le_of_ble_eq_true rfl) d_Mo_row_94 (fun H locs hI => ?_)
        obtain rfl := Option.some.inj hf
        exact fh_iret S hr hk rfl hAe hI d_Mo_row_97
      · replace hf := fh_f c_11 hf
        refine lv_iload_n hx hb d_Mo_row_14 rfl (lv_at hl 2 rfl) ?_
        refine lv_iconst (v := 1) hx hb d_Mo_row_15 (by decide) ?_
        refine lv_iadd hx hb d_Mo_row_16 ?_
        obtain ⟨x4, e_x4, hf⟩ := fh_b hf
        refine fh_topi e_x4 ?_
        refine lv_istore_n (lv' := [(3, .int x4), (0, va_rf (some o)), (1, .int v1), (2, .int v2)]) hx hb d_Mo_row_17 rfl hl (by decide) rfl (fun ls hl => ?_)
        exact L18 N v1 v2 x4 h _ _ _ (lv_sub hl [1, 2, 3, 0] rfl) hI hf
  unfold f_Mo_row at hf
  refine fh_aload_n S d_Mo_row_0 rfl (lv_at hl 0 rfl) ?_
  obtain ⟨o1, e_o1, hf⟩ := fh_b hf
  obtain ⟨r2, e_r2, hf⟩ := fh_b hf
  refine fh_callV (As := []) (rest := []) S fT_good hE hI e_o1 rfl (c_Mo_clearSets e_r2) fy_Mo_clearSets fst_Mo_clearSets k_207 ⟨rfl, rfl⟩ ⟨Nat.le_of_ble_eq_true rfl, Nat.le_of_ble_eq_true rfl⟩ ⟨Nat.zero_le _, Nat.zero_le _⟩ rfl hl.1 rfl (Nat.le_of_ble_eq_true rfl) d_Mo_row_1 (fun H locs hI => ?_)
  refine lv_iconst (v := 0) hx hb d_Mo_row_4 (by decide) ?_
  refine lv_istore_n (lv' := [(2, .int 0), (0, va_rf (some o)), (1, .int a1)]) hx hb d_Mo_row_5 rfl hl (by decide) rfl (fun ls hl => ?_)
  exact L6 N a1 0 r2 _ _ _ (lv_sub hl [1, 2, 0] rfl) hI hf
theorem d_Mo_ringThrough_0 : decode c0_Mo_ringThrough 0 = .ok (.iconst 0, 1) := by decide +kernel
theorem d_Mo_ringThrough_1 : decode c0_Mo_ringThrough 1 = .ok (.istore 4, 2) := by decide +kernel
theorem d_Mo_ringThrough_3 : decode c0_Mo_ringThrough 3 = .ok (.iconst 0, 1) := by decide +kernel
theorem d_Mo_ringThrough_4 : decode c0_Mo_ringThrough 4 = .ok (.istore 5, 2) := by decide +kernel
theorem d_Mo_ringThrough_6 : decode c0_Mo_ringThrough 6 = .ok (.iload 5, 2) := by decide +kernel
theorem d_Mo_ringThrough_8 : decode c0_Mo_ringThrough 8 = .ok (.aload_n 0, 1) := by decide +kernel
theorem d_Mo_ringThrough_9 : decode c0_Mo_ringThrough 9 = .ok (.getfield 131, 3) := by decide +kernel
theorem d_Mo_ringThrough_12 : decode c0_Mo_ringThrough 12 = .ok (.if_icmp .ge 89, 3) := by decide +kernel
theorem d_Mo_ringThrough_15 : decode c0_Mo_ringThrough 15 = .ok (.aload_n 0, 1) := by decide +kernel
theorem d_Mo_ringThrough_16 : decode c0_Mo_ringThrough 16 = .ok (.iload_n 1, 1) := by decide +kernel
theorem d_Mo_ringThrough_17 : decode c0_Mo_ringThrough 17 = .ok (.iload_n 2, 1) := by decide +kernel
theorem d_Mo_ringThrough_18 : decode c0_Mo_ringThrough 18 = .ok (.iload_n 3, 1) := by decide +kernel
theorem d_Mo_ringThrough_19 : decode c0_Mo_ringThrough 19 = .ok (.iload 5, 2) := by decide +kernel
theorem d_Mo_ringThrough_21 : decode c0_Mo_ringThrough 21 = .ok (.iconst 0, 1) := by decide +kernel
theorem d_Mo_ringThrough_22 : decode c0_Mo_ringThrough 22 = .ok (.iconst 0, 1) := by decide +kernel
theorem d_Mo_ringThrough_23 : decode c0_Mo_ringThrough 23 = .ok (.invokevirtual 198, 3) := by decide +kernel
theorem d_Mo_ringThrough_26 : decode c0_Mo_ringThrough 26 = .ok (.aload_n 0, 1) := by decide +kernel
theorem d_Mo_ringThrough_27 : decode c0_Mo_ringThrough 27 = .ok (.getfield 36, 3) := by decide +kernel
theorem d_Mo_ringThrough_30 : decode c0_Mo_ringThrough 30 = .ok (.bipush 10, 2) := by decide +kernel
theorem d_Mo_ringThrough_32 : decode c0_Mo_ringThrough 32 = .ok (.iload_n 1, 1) := by decide +kernel
theorem d_Mo_ringThrough_33 : decode c0_Mo_ringThrough 33 = .ok (.imul, 1) := by decide +kernel
theorem d_Mo_ringThrough_34 : decode c0_Mo_ringThrough 34 = .ok (.iload 5, 2) := by decide +kernel
theorem d_Mo_ringThrough_36 : decode c0_Mo_ringThrough 36 = .ok (.iadd, 1) := by decide +kernel
theorem d_Mo_ringThrough_37 : decode c0_Mo_ringThrough 37 = .ok (.baload, 1) := by decide +kernel
theorem d_Mo_ringThrough_38 : decode c0_Mo_ringThrough 38 = .ok (.ifCond .ne 43, 3) := by decide +kernel
theorem d_Mo_ringThrough_41 : decode c0_Mo_ringThrough 41 = .ok (.aload_n 0, 1) := by decide +kernel
theorem d_Mo_ringThrough_42 : decode c0_Mo_ringThrough 42 = .ok (.getfield 36, 3) := by decide +kernel
theorem d_Mo_ringThrough_45 : decode c0_Mo_ringThrough 45 = .ok (.bipush 10, 2) := by decide +kernel
theorem d_Mo_ringThrough_47 : decode c0_Mo_ringThrough 47 = .ok (.iload_n 2, 1) := by decide +kernel
theorem d_Mo_ringThrough_48 : decode c0_Mo_ringThrough 48 = .ok (.imul, 1) := by decide +kernel
theorem d_Mo_ringThrough_49 : decode c0_Mo_ringThrough 49 = .ok (.iload 5, 2) := by decide +kernel
theorem d_Mo_ringThrough_51 : decode c0_Mo_ringThrough 51 = .ok (.iadd, 1) := by decide +kernel
theorem d_Mo_ringThrough_52 : decode c0_Mo_ringThrough 52 = .ok (.baload, 1) := by decide +kernel
theorem d_Mo_ringThrough_53 : decode c0_Mo_ringThrough 53 = .ok (.ifCond .ne 28, 3) := by decide +kernel
theorem d_Mo_ringThrough_56 : decode c0_Mo_ringThrough 56 = .ok (.aload_n 0, 1) := by decide +kernel
theorem d_Mo_ringThrough_57 : decode c0_Mo_ringThrough 57 = .ok (.getfield 36, 3) := by decide +kernel
theorem d_Mo_ringThrough_60 : decode c0_Mo_ringThrough 60 = .ok (.bipush 10, 2) := by decide +kernel
theorem d_Mo_ringThrough_62 : decode c0_Mo_ringThrough 62 = .ok (.iload_n 3, 1) := by decide +kernel
theorem d_Mo_ringThrough_63 : decode c0_Mo_ringThrough 63 = .ok (.imul, 1) := by decide +kernel
theorem d_Mo_ringThrough_64 : decode c0_Mo_ringThrough 64 = .ok (.iload 5, 2) := by decide +kernel
theorem d_Mo_ringThrough_66 : decode c0_Mo_ringThrough 66 = .ok (.iadd, 1) := by decide +kernel
theorem d_Mo_ringThrough_67 : decode c0_Mo_ringThrough 67 = .ok (.baload, 1) := by decide +kernel
theorem d_Mo_ringThrough_68 : decode c0_Mo_ringThrough 68 = .ok (.ifCond .ne 13, 3) := by decide +kernel
theorem d_Mo_ringThrough_71 : decode c0_Mo_ringThrough 71 = .ok (.aload_n 0, 1) := by decide +kernel
theorem d_Mo_ringThrough_72 : decode c0_Mo_ringThrough 72 = .ok (.iconst 5, 1) := by decide +kernel
theorem d_Mo_ringThrough_73 : decode c0_Mo_ringThrough 73 = .ok (.iconst 0, 1) := by decide +kernel
theorem d_Mo_ringThrough_74 : decode c0_Mo_ringThrough 74 = .ok (.iconst 0, 1) := by decide +kernel
theorem d_Mo_ringThrough_75 : decode c0_Mo_ringThrough 75 = .ok (.invokevirtual 185, 3) := by decide +kernel
theorem d_Mo_ringThrough_78 : decode c0_Mo_ringThrough 78 = .ok (.ifCond .eq 13, 3) := by decide +kernel
theorem d_Mo_ringThrough_81 : decode c0_Mo_ringThrough 81 = .ok (.iload 4, 2) := by decide +kernel
theorem d_Mo_ringThrough_83 : decode c0_Mo_ringThrough 83 = .ok (.iconst 1, 1) := by decide +kernel
theorem d_Mo_ringThrough_84 : decode c0_Mo_ringThrough 84 = .ok (.iload 5, 2) := by decide +kernel
theorem d_Mo_ringThrough_86 : decode c0_Mo_ringThrough 86 = .ok (.ishl, 1) := by decide +kernel
theorem d_Mo_ringThrough_87 : decode c0_Mo_ringThrough 87 = .ok (.ior, 1) := by decide +kernel
theorem d_Mo_ringThrough_88 : decode c0_Mo_ringThrough 88 = .ok (.goto 5, 3) := by decide +kernel
theorem d_Mo_ringThrough_91 : decode c0_Mo_ringThrough 91 = .ok (.iload 4, 2) := by decide +kernel
theorem d_Mo_ringThrough_93 : decode c0_Mo_ringThrough 93 = .ok (.istore 4, 2) := by decide +kernel
theorem d_Mo_ringThrough_95 : decode c0_Mo_ringThrough 95 = .ok (.iinc 5 1, 3) := by decide +kernel
theorem d_Mo_ringThrough_98 : decode c0_Mo_ringThrough 98 = .ok (.goto (-92), 3) := by decide +kernel
theorem d_Mo_ringThrough_101 : decode c0_Mo_ringThrough 101 = .ok (.iload 4, 2) := by decide +kernel
theorem d_Mo_ringThrough_103 : decode c0_Mo_ringThrough 103 = .ok (.ireturn, 1) := by decide +kernel
def b_Mo_ringThrough_93 (K : Nat → ClassId) (N : Nat) (k6 : Int32 → Int32 → Int32 → Int32 → Int32 → fh_H → Option (Int32 × fh_H)) (o : Nat) (v1 : Int32) (v2 : Int32) (v3 : Int32) (v5 : Int32) (w0 : Int32) (h : fh_H) : Option (Int32 × fh_H) :=
  (some (v5 + 1)).bind fun x1 => k6 v1 v2 v3 w0 x1 h
def b_Mo_ringThrough_81 (K : Nat → ClassId) (N : Nat) (k6 : Int32 → Int32 → Int32 → Int32 → Int32 → fh_H → Option (Int32 × fh_H)) (o : Nat) (v1 : Int32) (v2 : Int32) (v3 : Int32) (v4 : Int32) (v5 : Int32) (h : fh_H) : Option (Int32 × fh_H) :=
  b_Mo_ringThrough_93 K N k6 o v1 v2 v3 v5 (v4 ||| ((1 : Int32) <<< (v5 &&& 31))) h
def b_Mo_ringThrough_6 (K : Nat → ClassId) (N : Nat) (k6 : Int32 → Int32 → Int32 → Int32 → Int32 → fh_H → Option (Int32 × fh_H)) (o : Nat) (v1 : Int32) (v2 : Int32) (v3 : Int32) (v4 : Int32) (v5 : Int32) (h : fh_H) : Option (Int32 × fh_H) :=
  (fg_i h (some o) 6 0).bind fun x1 => if x1 ≤ v5 then (some (v4, h)) else ((fg_o h (some o) 6).bind fun o2 => (f_Mo_setRow K N o2 v1 v2 v3 v5 0 0 h).bind fun r3 => (fg_a r3 (some o) 6 16).bind fun x4 => (fa_i (K 2) r3 x4 ((10 * v1) + v5)).bind fun x5 => if x5 = 0 then ((fg_a r3 (some o) 6 16).bind fun x6 => (fa_i (K 2) r3 x6 ((10 * v2) + v5)).bind fun x7 => if x7 = 0 then ((fg_a r3 (some o) 6 16).bind fun x8 => (fa_i (K 2) r3 x8 ((10 * v3) + v5)).bind fun x9 => if x9 = 0 then ((fg_o r3 (some o) 6).bind fun o10 => (f_Mo_isAlways K N o10 5 0 0 r3).bind fun r11 => if r11.1 = 0 then (b_Mo_ringThrough_93 K N k6 o v1 v2 v3 v5 v4 r11.2) else (b_Mo_ringThrough_81 K N k6 o v1 v2 v3 v4 v5 r11.2)) else (b_Mo_ringThrough_81 K N k6 o v1 v2 v3 v4 v5 r3)) else (b_Mo_ringThrough_81 K N k6 o v1 v2 v3 v4 v5 r3)) else (b_Mo_ringThrough_81 K N k6 o v1 v2 v3 v4 v5 r3))
def l_Mo_ringThrough_6 (K : Nat → ClassId) (N : Nat) (o : Nat) : Nat → Int32 → Int32 → Int32 → Int32 → Int32 → fh_H → Option (Int32 × fh_H)
  | 0, _, _, _, _, _, _ => none
  | n + 1, v1, v2, v3, v4, v5, h => b_Mo_ringThrough_6 K N (l_Mo_ringThrough_6 K N o n) o v1 v2 v3 v4 v5 h
def f_Mo_ringThrough (K : Nat → ClassId) (N : Nat) (o : Nat) (a1 : Int32) (a2 : Int32) (a3 : Int32) (h0 : fh_H) : Option (Int32 × fh_H) :=
  l_Mo_ringThrough_6 K N o N a1 a2 a3 0 0 h0
set_option maxHeartbeats 4000000 in
set_option maxRecDepth 100000 in
theorem c_Mo_ringThrough {l : Launch} {D : va_G} {K : Nat → ClassId} {t : Nat → Nat} {N : Nat} {o : Nat} {a1 : Int32} {a2 : Int32} {a3 : Int32} {h0 : fh_H} {res : Int32 × fh_H} (hf : f_Mo_ringThrough K N o a1 a2 a3 h0 = some res) : fC l D K t y_Mo_ringThrough c0_Mo_ringThrough 6 (some .int) rm_Mo_ringThrough [.ref o, .int a1, .int a2, .int a3] h0 (some (.int res.1)) res.2 := by
  refine fh_body (by decide) (Nat.le_of_ble_eq_true rfl) ?_
  intro p e s m below meth c A ls S hr hk hnm hE hAe hI hl
  obtain ⟨hx, hb, hml, hown, hts⟩ := id S
  have hl : lv_has ls 6 [(0, va_rf (some o)), (1, .int a1), (2, .int a2), (3, .int a3)] := hl
  have L6 : ∀ (n6 : Nat) (v1 : Int32) (v2 : Int32) (v3 : Int32) (v4 : Int32) (v5 : Int32) (h : fh_H) (H : Heap) (locs : List Loc) (ls : Array Slot), lv_has ls 6 [(0, va_rf (some o)), (1, .int v1), (2, .int v2), (3, .int v3), (4, .int v4), (5, .int v5)] → fh_I D classes A s.heap h H locs → l_Mo_ringThrough_6 K N o n6 v1 v2 v3 v4 v5 h = some res → W p l e rm_Mo_ringThrough s m [.ref o, .int a1, .int a2, .int a3].toArray below meth c H locs 0 0 (MQ below (fh_Q D classes h0 s.heap.size (some (.int res.1)) res.2) [.ref o, .int a1, .int a2, .int a3].toArray s 0 0 A) (F0 m 6 ls []) := by
    intro n6
    induction n6 with
    | zero =>
      intro v1 v2 v3 v4 v5 h H locs ls hl hI hf
      exact fh_no hf
    | succ n6 ih6 =>
      have B93 : ∀ (v1 : Int32) (v2 : Int32) (v3 : Int32) (v5 : Int32) (w0 : Int32) (h : fh_H) (H : Heap) (locs : List Loc) (ls : Array Slot), lv_has ls 6 [(0, va_rf (some o)), (1, .int v1), (2, .int v2), (3, .int v3), (5, .int v5)] → fh_I D classes A s.heap h H locs → b_Mo_ringThrough_93 K N (l_Mo_ringThrough_6 K N o n6) o v1 v2 v3 v5 w0 h = some res → W p l e rm_Mo_ringThrough s m [.ref o, .int a1, .int a2, .int a3].toArray below meth c H locs 0 0 (MQ below (fh_Q D classes h0 s.heap.size (some (.int res.1)) res.2) [.ref o, .int a1, .int a2, .int a3].toArray s 0 0 A) (F0 m 93 ls [.int w0]) := by
        intro v1 v2 v3 v5 w0 h H locs ls hl hI hf
        unfold b_Mo_ringThrough_93 at hf
        refine lv_istore (lv' := [(4, .int w0), (0, va_rf (some o)), (1, .int v1), (2, .int v2), (3, .int v3), (5, .int v5)]) hx hb d_Mo_ringThrough_93 hl (by decide) rfl (fun ls hl => ?_)
        obtain ⟨x1, e_x1, hf⟩ := fh_b hf
        refine lv_iinc (v := x1) (lv' := [(5, .int x1), (4, .int w0), (0, va_rf (some o)), (1, .int v1), (2, .int v2), (3, .int v3)]) hx hb d_Mo_ringThrough_95 hl (k := 5) rfl (by rw [fh_qe e_x1]; rfl) (by decide) rfl (fun ls hl => ?_)
        refine lv_goto (tgt := 6) hx hb d_Mo_ringThrough_98 (by decide) ?_
        exact ih6 v1 v2 v3 w0 x1 h _ _ _ (lv_sub hl [2, 3, 4, 5, 1, 0] rfl) hI hf
      have B81 : ∀ (v1 : Int32) (v2 : Int32) (v3 : Int32) (v4 : Int32) (v5 : Int32) (h : fh_H) (H : Heap) (locs : List Loc) (ls : Array Slot), lv_has ls 6 [(0, va_rf (some o)), (1, .int v1), (2, .int v2), (3, .int v3), (4, .int v4), (5, .int v5)] → fh_I D classes A s.heap h H locs → b_Mo_ringThrough_81 K N (l_Mo_ringThrough_6 K N o n6) o v1 v2 v3 v4 v5 h = some res → W p l e rm_Mo_ringThrough s m [.ref o, .int a1, .int a2, .int a3].toArray below meth c H locs 0 0 (MQ below (fh_Q D classes h0 s.heap.size (some (.int res.1)) res.2) [.ref o, .int a1, .int a2, .int a3].toArray s 0 0 A) (F0 m 81 ls []) := by
        intro v1 v2 v3 v4 v5 h H locs ls hl hI hf
        unfold b_Mo_ringThrough_81 at hf
        refine lv_iload hx hb d_Mo_ringThrough_81 (lv_at hl 4 rfl) ?_
        refine lv_iconst (v := 1) hx hb d_Mo_ringThrough_83 (by decide) ?_
        refine lv_iload hx hb d_Mo_ringThrough_84 (lv_at hl 5 rfl) ?_
        refine lv_ishl hx hb d_Mo_ringThrough_86 ?_
        refine lv_ior hx hb d_Mo_ringThrough_87 ?_
        refine lv_goto (tgt := 93) hx hb d_Mo_ringThrough_88 (by decide) ?_
        exact B93 v1 v2 v3 v5 (v4 ||| ((1 : Int32) <<< (v5 &&& 31))) h _ _ _ (lv_sub hl [0, 1, 2, 3, 5] rfl) hI hf
      intro v1 v2 v3 v4 v5 h H locs ls hl hI hf
      have hf : b_Mo_ringThrough_6 K N (l_Mo_ringThrough_6 K N o n6) o v1 v2 v3 v4 v5 h = some res := hf
      unfold b_Mo_ringThrough_6 at hf
      refine lv_iload hx hb d_Mo_ringThrough_6 (lv_at hl 5 rfl) ?_
      refine fh_aload_n S d_Mo_ringThrough_8 rfl (lv_at hl 0 rfl) ?_
      obtain ⟨x1, e_x1, hf⟩ := fh_b hf
      refine fh_geti S hE.1 hI e_x1 (hc := rfl) (hin := in_6) (by decide) (hts _ k_163) d_Mo_ringThrough_9 ?_
      refine lv_icmp_ge (tgt := 101) hx hb d_Mo_ringThrough_12 (by decide) (fun c_12 => ?_) (fun c_12 => ?_)
      · replace hf := fh_t c_12 hf
        refine lv_iload hx hb d_Mo_ringThrough_101 (lv_at hl 4 rfl) ?_
        obtain rfl := Option.some.inj hf
        exact fh_iret S hr hk rfl hAe hI d_Mo_ringThrough_103
      · replace hf := fh_f c_12 hf
        refine fh_aload_n S d_Mo_ringThrough_15 rfl (lv_at hl 0 rfl) ?_
        refine lv_iload_n hx hb d_Mo_ringThrough_16 rfl (lv_at hl 1 rfl) ?_
        refine lv_iload_n hx hb d_Mo_ringThrough_17 rfl (lv_at hl 2 rfl) ?_
        refine lv_iload_n hx hb d_Mo_ringThrough_18 rfl (lv_at hl 3 rfl) ?_
        refine lv_iload hx hb d_Mo_ringThrough_19 (lv_at hl 5 rfl) ?_
        refine lv_iconst (v := 0) hx hb d_Mo_ringThrough_21 (by decide) ?_
        refine lv_iconst (v := 0) hx hb d_Mo_ringThrough_22 (by decide) ?_
        obtain ⟨o2, e_o2, hf⟩ := fh_b hf
        obtain ⟨r3, e_r3, hf⟩ := fh_b hf
        refine fh_callV (As := [.int v1, .int v2, .int v3, .int v5, .int 0, .int 0]) (rest := []) S fT_good hE hI e_o2 rfl (c_Mo_setRow e_r3) fy_Mo_setRow fst_Mo_setRow k_184 ⟨rfl, rfl⟩ ⟨Nat.le_of_ble_eq_true rfl, Nat.le_of_ble_eq_true rfl⟩ ⟨Nat.zero_le _, Nat.zero_le _⟩ rfl hl.1 rfl (Nat.le_of_ble_eq_true rfl) d_Mo_ringThrough_23 (fun H locs hI => ?_)
        refine fh_aload_n S d_Mo_ringThrough_26 rfl (lv_at hl 0 rfl) ?_
        obtain ⟨x4, e_x4, hf⟩ := fh_b hf
        refine fh_geta S hE.1 hI e_x4 (hc := rfl) (hin := in_6) (by decide) (hts _ k_185) d_Mo_ringThrough_27 ?_
        refine lv_bipush (v := 10) hx hb d_Mo_ringThrough_30 (by decide) ?_
        refine lv_iload_n hx hb d_Mo_ringThrough_32 rfl (lv_at hl 1 rfl) ?_
        refine lv_imul hx hb d_Mo_ringThrough_33 ?_
        refine lv_iload hx hb d_Mo_ringThrough_34 (lv_at hl 5 rfl) ?_
        refine lv_iadd hx hb d_Mo_ringThrough_36 ?_
        obtain ⟨x5, e_x5, hf⟩ := fh_b hf
        refine fh_zald S hE.1 hI 2 rfl e_x5 d_Mo_ringThrough_37 ?_
        refine lv_if_ne (tgt := 81) hx hb d_Mo_ringThrough_38 (by decide) (fun c_38 => ?_) (fun c_38 => ?_)
        · replace hf := fh_f c_38 hf
          exact B81 v1 v2 v3 v4 v5 r3 _ _ _ (lv_sub hl [0, 1, 2, 3, 4, 5] rfl) hI hf
        · replace hf := fh_t c_38 hf
          refine fh_aload_n S d_Mo_ringThrough_41 rfl (lv_at hl 0 rfl) ?_
          obtain ⟨x6, e_x6, hf⟩ := fh_b hf
          refine fh_geta S hE.1 hI e_x6 (hc := rfl) (hin := in_6) (by decide) (hts _ k_185) d_Mo_ringThrough_42 ?_
          refine lv_bipush (v := 10) hx hb d_Mo_ringThrough_45 (by decide) ?_
          refine lv_iload_n hx hb d_Mo_ringThrough_47 rfl (lv_at hl 2 rfl) ?_
          refine lv_imul hx hb d_Mo_ringThrough_48 ?_
          refine lv_iload hx hb d_Mo_ringThrough_49 (lv_at hl 5 rfl) ?_
          refine lv_iadd hx hb d_Mo_ringThrough_51 ?_
          obtain ⟨x7, e_x7, hf⟩ := fh_b hf
          refine fh_zald S hE.1 hI 2 rfl e_x7 d_Mo_ringThrough_52 ?_
          refine lv_if_ne (tgt := 81) hx hb d_Mo_ringThrough_53 (by decide) (fun c_53 => ?_) (fun c_53 => ?_)
          · replace hf := fh_f c_53 hf
            exact B81 v1 v2 v3 v4 v5 r3 _ _ _ (lv_sub hl [0, 1, 2, 3, 4, 5] rfl) hI hf
          · replace hf := fh_t c_53 hf
            refine fh_aload_n S d_Mo_ringThrough_56 rfl (lv_at hl 0 rfl) ?_
            obtain ⟨x8, e_x8, hf⟩ := fh_b hf
            refine fh_geta S hE.1 hI e_x8 (hc := rfl) (hin := in_6) (by decide) (hts _ k_185) d_Mo_ringThrough_57 ?_
            refine lv_bipush (v := 10) hx hb d_Mo_ringThrough_60 (by decide) ?_
            refine lv_iload_n hx hb d_Mo_ringThrough_62 rfl (lv_at hl 3 rfl) ?_
            refine lv_imul hx hb d_Mo_ringThrough_63 ?_
            refine lv_iload hx hb d_Mo_ringThrough_64 (lv_at hl 5 rfl) ?_
            refine lv_iadd hx hb d_Mo_ringThrough_66 ?_
            obtain ⟨x9, e_x9, hf⟩ := fh_b hf
            refine fh_zald S hE.1 hI 2 rfl e_x9 d_Mo_ringThrough_67 ?_
            refine lv_if_ne (tgt := 81) hx hb d_Mo_ringThrough_68 (by decide) (fun c_68 => ?_) (fun c_68 => ?_)
            · replace hf := fh_f c_68 hf
              exact B81 v1 v2 v3 v4 v5 r3 _ _ _ (lv_sub hl [0, 1, 2, 3, 4, 5] rfl) hI hf
            · replace hf := fh_t c_68 hf
              refine fh_aload_n S d_Mo_ringThrough_71 rfl (lv_at hl 0 rfl) ?_
              refine lv_iconst (v := 5) hx hb d_Mo_ringThrough_72 (by decide) ?_
              refine lv_iconst (v := 0) hx hb d_Mo_ringThrough_73 (by decide) ?_
              refine lv_iconst (v := 0) hx hb d_Mo_ringThrough_74 (by decide) ?_
              obtain ⟨o10, e_o10, hf⟩ := fh_b hf
              obtain ⟨r11, e_r11, hf⟩ := fh_b hf
              refine fh_callV (As := [.int 5, .int 0, .int 0]) (rest := []) S fT_good hE hI e_o10 rfl (c_Mo_isAlways e_r11) fy_Mo_isAlways fst_Mo_isAlways k_186 ⟨rfl, rfl⟩ ⟨Nat.le_of_ble_eq_true rfl, Nat.le_of_ble_eq_true rfl⟩ ⟨Nat.zero_le _, Nat.zero_le _⟩ rfl hl.1 rfl (Nat.le_of_ble_eq_true rfl) d_Mo_ringThrough_75 (fun H locs hI => ?_)
              refine lv_if_eq (tgt := 91) hx hb d_Mo_ringThrough_78 (by decide) (fun c_78 => ?_) (fun c_78 => ?_)
              · replace hf := fh_t c_78 hf
                refine lv_iload hx hb d_Mo_ringThrough_91 (lv_at hl 4 rfl) ?_
                exact B93 v1 v2 v3 v5 v4 r11.2 _ _ _ (lv_sub hl [0, 1, 2, 3, 5] rfl) hI hf
              · replace hf := fh_f c_78 hf
                exact B81 v1 v2 v3 v4 v5 r11.2 _ _ _ (lv_sub hl [0, 1, 2, 3, 4, 5] rfl) hI hf
  unfold f_Mo_ringThrough at hf
  refine lv_iconst (v := 0) hx hb d_Mo_ringThrough_0 (by decide) ?_
  refine lv_istore (lv' := [(4, .int 0), (0, va_rf (some o)), (1, .int a1), (2, .int a2), (3, .int a3)]) hx hb d_Mo_ringThrough_1 hl (by decide) rfl (fun ls hl => ?_)
  refine lv_iconst (v := 0) hx hb d_Mo_ringThrough_3 (by decide) ?_
  refine lv_istore (lv' := [(5, .int 0), (4, .int 0), (0, va_rf (some o)), (1, .int a1), (2, .int a2), (3, .int a3)]) hx hb d_Mo_ringThrough_4 hl (by decide) rfl (fun ls hl => ?_)
  exact L6 N a1 a2 a3 0 0 h0 _ _ _ (lv_sub hl [2, 3, 4, 5, 1, 0] rfl) hI hf
theorem d_Mo_ring_0 : decode c0_Mo_ring 0 = .ok (.aload_n 0, 1) := by decide +kernel
theorem d_Mo_ring_1 : decode c0_Mo_ring 1 = .ok (.invokevirtual 244, 3) := by decide +kernel
theorem d_Mo_ring_4 : decode c0_Mo_ring 4 = .ok (.iconst 0, 1) := by decide +kernel
theorem d_Mo_ring_5 : decode c0_Mo_ring 5 = .ok (.istore_n 2, 1) := by decide +kernel
theorem d_Mo_ring_6 : decode c0_Mo_ring 6 = .ok (.iload_n 2, 1) := by decide +kernel
theorem d_Mo_ring_7 : decode c0_Mo_ring 7 = .ok (.aload_n 0, 1) := by decide +kernel
theorem d_Mo_ring_8 : decode c0_Mo_ring 8 = .ok (.getfield 131, 3) := by decide +kernel
theorem d_Mo_ring_11 : decode c0_Mo_ring 11 = .ok (.if_icmp .ge 173, 3) := by decide +kernel
theorem d_Mo_ring_14 : decode c0_Mo_ring 14 = .ok (.iload_n 2, 1) := by decide +kernel
theorem d_Mo_ring_15 : decode c0_Mo_ring 15 = .ok (.iconst 1, 1) := by decide +kernel
theorem d_Mo_ring_16 : decode c0_Mo_ring 16 = .ok (.iadd, 1) := by decide +kernel
theorem d_Mo_ring_17 : decode c0_Mo_ring 17 = .ok (.istore_n 3, 1) := by decide +kernel
theorem d_Mo_ring_18 : decode c0_Mo_ring 18 = .ok (.iload_n 3, 1) := by decide +kernel
theorem d_Mo_ring_19 : decode c0_Mo_ring 19 = .ok (.aload_n 0, 1) := by decide +kernel
theorem d_Mo_ring_20 : decode c0_Mo_ring 20 = .ok (.getfield 131, 3) := by decide +kernel
theorem d_Mo_ring_23 : decode c0_Mo_ring 23 = .ok (.if_icmp .ge 155, 3) := by decide +kernel
theorem d_Mo_ring_26 : decode c0_Mo_ring 26 = .ok (.iload_n 3, 1) := by decide +kernel
theorem d_Mo_ring_27 : decode c0_Mo_ring 27 = .ok (.iconst 1, 1) := by decide +kernel
theorem d_Mo_ring_28 : decode c0_Mo_ring 28 = .ok (.iadd, 1) := by decide +kernel
theorem d_Mo_ring_29 : decode c0_Mo_ring 29 = .ok (.istore 4, 2) := by decide +kernel
theorem d_Mo_ring_31 : decode c0_Mo_ring 31 = .ok (.iload 4, 2) := by decide +kernel
theorem d_Mo_ring_33 : decode c0_Mo_ring 33 = .ok (.aload_n 0, 1) := by decide +kernel
theorem d_Mo_ring_34 : decode c0_Mo_ring 34 = .ok (.getfield 131, 3) := by decide +kernel
theorem d_Mo_ring_37 : decode c0_Mo_ring 37 = .ok (.if_icmp .ge 135, 3) := by decide +kernel
theorem d_Mo_ring_40 : decode c0_Mo_ring 40 = .ok (.aload_n 0, 1) := by decide +kernel
theorem d_Mo_ring_41 : decode c0_Mo_ring 41 = .ok (.getfield 36, 3) := by decide +kernel
theorem d_Mo_ring_44 : decode c0_Mo_ring 44 = .ok (.bipush 10, 2) := by decide +kernel
theorem d_Mo_ring_46 : decode c0_Mo_ring 46 = .ok (.iload_n 2, 1) := by decide +kernel
theorem d_Mo_ring_47 : decode c0_Mo_ring 47 = .ok (.imul, 1) := by decide +kernel
theorem d_Mo_ring_48 : decode c0_Mo_ring 48 = .ok (.iload_n 3, 1) := by decide +kernel
theorem d_Mo_ring_49 : decode c0_Mo_ring 49 = .ok (.iadd, 1) := by decide +kernel
theorem d_Mo_ring_50 : decode c0_Mo_ring 50 = .ok (.baload, 1) := by decide +kernel
theorem d_Mo_ring_51 : decode c0_Mo_ring 51 = .ok (.ifCond .ne 37, 3) := by decide +kernel
theorem d_Mo_ring_54 : decode c0_Mo_ring 54 = .ok (.aload_n 0, 1) := by decide +kernel
theorem d_Mo_ring_55 : decode c0_Mo_ring 55 = .ok (.getfield 36, 3) := by decide +kernel
theorem d_Mo_ring_58 : decode c0_Mo_ring 58 = .ok (.bipush 10, 2) := by decide +kernel
theorem d_Mo_ring_60 : decode c0_Mo_ring 60 = .ok (.iload_n 2, 1) := by decide +kernel
theorem d_Mo_ring_61 : decode c0_Mo_ring 61 = .ok (.imul, 1) := by decide +kernel
theorem d_Mo_ring_62 : decode c0_Mo_ring 62 = .ok (.iload 4, 2) := by decide +kernel
theorem d_Mo_ring_64 : decode c0_Mo_ring 64 = .ok (.iadd, 1) := by decide +kernel
theorem d_Mo_ring_65 : decode c0_Mo_ring 65 = .ok (.baload, 1) := by decide +kernel
theorem d_Mo_ring_66 : decode c0_Mo_ring 66 = .ok (.ifCond .ne 22, 3) := by decide +kernel
theorem d_Mo_ring_69 : decode c0_Mo_ring 69 = .ok (.aload_n 0, 1) := by decide +kernel
theorem d_Mo_ring_70 : decode c0_Mo_ring 70 = .ok (.getfield 36, 3) := by decide +kernel
theorem d_Mo_ring_73 : decode c0_Mo_ring 73 = .ok (.bipush 10, 2) := by decide +kernel
theorem d_Mo_ring_75 : decode c0_Mo_ring 75 = .ok (.iload_n 3, 1) := by decide +kernel
theorem d_Mo_ring_76 : decode c0_Mo_ring 76 = .ok (.imul, 1) := by decide +kernel
theorem d_Mo_ring_77 : decode c0_Mo_ring 77 = .ok (.iload 4, 2) := by decide +kernel
theorem d_Mo_ring_79 : decode c0_Mo_ring 79 = .ok (.iadd, 1) := by decide +kernel
theorem d_Mo_ring_80 : decode c0_Mo_ring 80 = .ok (.baload, 1) := by decide +kernel
theorem d_Mo_ring_81 : decode c0_Mo_ring 81 = .ok (.ifCond .ne 7, 3) := by decide +kernel
theorem d_Mo_ring_84 : decode c0_Mo_ring 84 = .ok (.iconst 1, 1) := by decide +kernel
theorem d_Mo_ring_85 : decode c0_Mo_ring 85 = .ok (.goto 4, 3) := by decide +kernel
theorem d_Mo_ring_88 : decode c0_Mo_ring 88 = .ok (.iconst 0, 1) := by decide +kernel
theorem d_Mo_ring_89 : decode c0_Mo_ring 89 = .ok (.istore 5, 2) := by decide +kernel
theorem d_Mo_ring_91 : decode c0_Mo_ring 91 = .ok (.aload_n 0, 1) := by decide +kernel
theorem d_Mo_ring_92 : decode c0_Mo_ring 92 = .ok (.iload_n 2, 1) := by decide +kernel
theorem d_Mo_ring_93 : decode c0_Mo_ring 93 = .ok (.iload_n 3, 1) := by decide +kernel
theorem d_Mo_ring_94 : decode c0_Mo_ring 94 = .ok (.iload 4, 2) := by decide +kernel
theorem d_Mo_ring_96 : decode c0_Mo_ring 96 = .ok (.iconst 0, 1) := by decide +kernel
theorem d_Mo_ring_97 : decode c0_Mo_ring 97 = .ok (.iconst 0, 1) := by decide +kernel
theorem d_Mo_ring_98 : decode c0_Mo_ring 98 = .ok (.iconst 0, 1) := by decide +kernel
theorem d_Mo_ring_99 : decode c0_Mo_ring 99 = .ok (.invokevirtual 198, 3) := by decide +kernel
theorem d_Mo_ring_102 : decode c0_Mo_ring 102 = .ok (.iload 5, 2) := by decide +kernel
theorem d_Mo_ring_104 : decode c0_Mo_ring 104 = .ok (.ifCond .eq 62, 3) := by decide +kernel
theorem d_Mo_ring_107 : decode c0_Mo_ring 107 = .ok (.aload_n 0, 1) := by decide +kernel
theorem d_Mo_ring_108 : decode c0_Mo_ring 108 = .ok (.invokevirtual 162, 3) := by decide +kernel
theorem d_Mo_ring_111 : decode c0_Mo_ring 111 = .ok (.ifCond .le 55, 3) := by decide +kernel
theorem d_Mo_ring_114 : decode c0_Mo_ring 114 = .ok (.aload_n 0, 1) := by decide +kernel
theorem d_Mo_ring_115 : decode c0_Mo_ring 115 = .ok (.iconst 1, 1) := by decide +kernel
theorem d_Mo_ring_116 : decode c0_Mo_ring 116 = .ok (.iconst 0, 1) := by decide +kernel
theorem d_Mo_ring_117 : decode c0_Mo_ring 117 = .ok (.iconst 0, 1) := by decide +kernel
theorem d_Mo_ring_118 : decode c0_Mo_ring 118 = .ok (.invokevirtual 185, 3) := by decide +kernel
theorem d_Mo_ring_121 : decode c0_Mo_ring 121 = .ok (.ifCond .ne 45, 3) := by decide +kernel
theorem d_Mo_ring_124 : decode c0_Mo_ring 124 = .ok (.aload_n 0, 1) := by decide +kernel
theorem d_Mo_ring_125 : decode c0_Mo_ring 125 = .ok (.iload_n 2, 1) := by decide +kernel
theorem d_Mo_ring_126 : decode c0_Mo_ring 126 = .ok (.iload_n 3, 1) := by decide +kernel
theorem d_Mo_ring_127 : decode c0_Mo_ring 127 = .ok (.iload 4, 2) := by decide +kernel
theorem d_Mo_ring_129 : decode c0_Mo_ring 129 = .ok (.invokevirtual 254, 3) := by decide +kernel
theorem d_Mo_ring_132 : decode c0_Mo_ring 132 = .ok (.istore 6, 2) := by decide +kernel
theorem d_Mo_ring_134 : decode c0_Mo_ring 134 = .ok (.aload_n 0, 1) := by decide +kernel
theorem d_Mo_ring_135 : decode c0_Mo_ring 135 = .ok (.getfield 43, 3) := by decide +kernel
theorem d_Mo_ring_138 : decode c0_Mo_ring 138 = .ok (.iload 6, 2) := by decide +kernel
theorem d_Mo_ring_140 : decode c0_Mo_ring 140 = .ok (.aload_n 0, 1) := by decide +kernel
theorem d_Mo_ring_141 : decode c0_Mo_ring 141 = .ok (.getfield 43, 3) := by decide +kernel
theorem d_Mo_ring_144 : decode c0_Mo_ring 144 = .ok (.iload 6, 2) := by decide +kernel
theorem d_Mo_ring_146 : decode c0_Mo_ring 146 = .ok (.baload, 1) := by decide +kernel
theorem d_Mo_ring_147 : decode c0_Mo_ring 147 = .ok (.ifCond .ne 13, 3) := by decide +kernel
theorem d_Mo_ring_150 : decode c0_Mo_ring 150 = .ok (.aload_n 0, 1) := by decide +kernel
theorem d_Mo_ring_151 : decode c0_Mo_ring 151 = .ok (.iload 6, 2) := by decide +kernel
theorem d_Mo_ring_153 : decode c0_Mo_ring 153 = .ok (.invokevirtual 166, 3) := by decide +kernel
theorem d_Mo_ring_156 : decode c0_Mo_ring 156 = .ok (.iconst 3, 1) := by decide +kernel
theorem d_Mo_ring_157 : decode c0_Mo_ring 157 = .ok (.if_icmp .le 7, 3) := by decide +kernel
theorem d_Mo_ring_160 : decode c0_Mo_ring 160 = .ok (.iconst 1, 1) := by decide +kernel
theorem d_Mo_ring_161 : decode c0_Mo_ring 161 = .ok (.goto 4, 3) := by decide +kernel
theorem d_Mo_ring_164 : decode c0_Mo_ring 164 = .ok (.iconst 0, 1) := by decide +kernel
theorem d_Mo_ring_165 : decode c0_Mo_ring 165 = .ok (.bastore, 1) := by decide +kernel
theorem d_Mo_ring_166 : decode c0_Mo_ring 166 = .ok (.iinc 4 1, 3) := by decide +kernel
theorem d_Mo_ring_169 : decode c0_Mo_ring 169 = .ok (.goto (-138), 3) := by decide +kernel
theorem d_Mo_ring_172 : decode c0_Mo_ring 172 = .ok (.iinc 3 1, 3) := by decide +kernel
theorem d_Mo_ring_175 : decode c0_Mo_ring 175 = .ok (.goto (-157), 3) := by decide +kernel
theorem d_Mo_ring_178 : decode c0_Mo_ring 178 = .ok (.iinc 2 1, 3) := by decide +kernel
theorem d_Mo_ring_181 : decode c0_Mo_ring 181 = .ok (.goto (-175), 3) := by decide +kernel
theorem d_Mo_ring_184 : decode c0_Mo_ring 184 = .ok (.aload_n 0, 1) := by decide +kernel
theorem d_Mo_ring_185 : decode c0_Mo_ring 185 = .ok (.iload_n 1, 1) := by decide +kernel
theorem d_Mo_ring_186 : decode c0_Mo_ring 186 = .ok (.invokevirtual 251, 3) := by decide +kernel
theorem d_Mo_ring_189 : decode c0_Mo_ring 189 = .ok (.ireturn, 1) := by decide +kernel
def b_Mo_ring_166 (K : Nat → ClassId) (N : Nat) (k6 : Int32 → Int32 → fh_H → Option (Int32 × fh_H)) (k18 : Int32 → Int32 → Int32 → fh_H → Option (Int32 × fh_H)) (k31 : Int32 → Int32 → Int32 → Int32 → fh_H → Option (Int32 × fh_H)) (o : Nat) (v1 : Int32) (v2 : Int32) (v3 : Int32) (v4 : Int32) (h : fh_H) : Option (Int32 × fh_H) :=
  (some (v4 + 1)).bind fun x1 => k31 v1 v2 v3 x1 h
def b_Mo_ring_165 (K : Nat → ClassId) (N : Nat) (k6 : Int32 → Int32 → fh_H → Option (Int32 × fh_H)) (k18 : Int32 → Int32 → Int32 → fh_H → Option (Int32 × fh_H)) (k31 : Int32 → Int32 → Int32 → Int32 → fh_H → Option (Int32 × fh_H)) (o : Nat) (v1 : Int32) (v2 : Int32) (v3 : Int32) (v4 : Int32) (w0 : Option Nat) (w1 : Int32) (w2 : Int32) (h : fh_H) : Option (Int32 × fh_H) :=
  (fs_z (K 2) h w0 w1 w2).bind fun h1 => b_Mo_ring_166 K N k6 k18 k31 o v1 v2 v3 v4 h1
def b_Mo_ring_160 (K : Nat → ClassId) (N : Nat) (k6 : Int32 → Int32 → fh_H → Option (Int32 × fh_H)) (k18 : Int32 → Int32 → Int32 → fh_H → Option (Int32 × fh_H)) (k31 : Int32 → Int32 → Int32 → Int32 → fh_H → Option (Int32 × fh_H)) (o : Nat) (v1 : Int32) (v2 : Int32) (v3 : Int32) (v4 : Int32) (w0 : Option Nat) (w1 : Int32) (h : fh_H) : Option (Int32 × fh_H) :=
  b_Mo_ring_165 K N k6 k18 k31 o v1 v2 v3 v4 w0 w1 1 h
def b_Mo_ring_89 (K : Nat → ClassId) (N : Nat) (k6 : Int32 → Int32 → fh_H → Option (Int32 × fh_H)) (k18 : Int32 → Int32 → Int32 → fh_H → Option (Int32 × fh_H)) (k31 : Int32 → Int32 → Int32 → Int32 → fh_H → Option (Int32 × fh_H)) (o : Nat) (v1 : Int32) (v2 : Int32) (v3 : Int32) (v4 : Int32) (w0 : Int32) (h : fh_H) : Option (Int32 × fh_H) :=
  (fg_o h (some o) 6).bind fun o1 => (f_Mo_setRow K N o1 v2 v3 v4 0 0 0 h).bind fun r2 => if w0 = 0 then (b_Mo_ring_166 K N k6 k18 k31 o v1 v2 v3 v4 r2) else ((fg_o r2 (some o) 6).bind fun o3 => (f_Mo_standing K N o3 r2).bind fun r4 => if r4.1 ≤ 0 then (b_Mo_ring_166 K N k6 k18 k31 o v1 v2 v3 v4 r4.2) else ((fg_o r4.2 (some o) 6).bind fun o5 => (f_Mo_isAlways K N o5 1 0 0 r4.2).bind fun r6 => if r6.1 = 0 then ((fg_o r6.2 (some o) 6).bind fun o7 => (f_Mo_ringThrough K N o7 v2 v3 v4 r6.2).bind fun r8 => (fg_a r8.2 (some o) 6 21).bind fun x9 => (fg_a r8.2 (some o) 6 21).bind fun x10 => (fa_i (K 2) r8.2 x10 r8.1).bind fun x11 => if x11 = 0 then ((fg_o r8.2 (some o) 6).bind fun o12 => (f_Mo_places K N o12 r8.1 r8.2).bind fun r13 => if r13.1 ≤ 3 then (b_Mo_ring_165 K N k6 k18 k31 o v1 v2 v3 v4 x9 r8.1 0 r13.2) else (b_Mo_ring_160 K N k6 k18 k31 o v1 v2 v3 v4 x9 r8.1 r13.2)) else (b_Mo_ring_160 K N k6 k18 k31 o v1 v2 v3 v4 x9 r8.1 r8.2)) else (b_Mo_ring_166 K N k6 k18 k31 o v1 v2 v3 v4 r6.2)))
def b_Mo_ring_88 (K : Nat → ClassId) (N : Nat) (k6 : Int32 → Int32 → fh_H → Option (Int32 × fh_H)) (k18 : Int32 → Int32 → Int32 → fh_H → Option (Int32 × fh_H)) (k31 : Int32 → Int32 → Int32 → Int32 → fh_H → Option (Int32 × fh_H)) (o : Nat) (v1 : Int32) (v2 : Int32) (v3 : Int32) (v4 : Int32) (h : fh_H) : Option (Int32 × fh_H) :=
  b_Mo_ring_89 K N k6 k18 k31 o v1 v2 v3 v4 0 h
def b_Mo_ring_31 (K : Nat → ClassId) (N : Nat) (k6 : Int32 → Int32 → fh_H → Option (Int32 × fh_H)) (k18 : Int32 → Int32 → Int32 → fh_H → Option (Int32 × fh_H)) (k31 : Int32 → Int32 → Int32 → Int32 → fh_H → Option (Int32 × fh_H)) (o : Nat) (v1 : Int32) (v2 : Int32) (v3 : Int32) (v4 : Int32) (h : fh_H) : Option (Int32 × fh_H) :=
  (fg_i h (some o) 6 0).bind fun x1 => if x1 ≤ v4 then ((some (v3 + 1)).bind fun x2 => k18 v1 v2 x2 h) else ((fg_a h (some o) 6 16).bind fun x3 => (fa_i (K 2) h x3 ((10 * v2) + v3)).bind fun x4 => if x4 = 0 then ((fg_a h (some o) 6 16).bind fun x5 => (fa_i (K 2) h x5 ((10 * v2) + v4)).bind fun x6 => if x6 = 0 then ((fg_a h (some o) 6 16).bind fun x7 => (fa_i (K 2) h x7 ((10 * v3) + v4)).bind fun x8 => if x8 = 0 then (b_Mo_ring_89 K N k6 k18 k31 o v1 v2 v3 v4 1 h) else (b_Mo_ring_88 K N k6 k18 k31 o v1 v2 v3 v4 h)) else (b_Mo_ring_88 K N k6 k18 k31 o v1 v2 v3 v4 h)) else (b_Mo_ring_88 K N k6 k18 k31 o v1 v2 v3 v4 h))
def l_Mo_ring_31 (K : Nat → ClassId) (N : Nat) (k6 : Int32 → Int32 → fh_H → Option (Int32 × fh_H)) (k18 : Int32 → Int32 → Int32 → fh_H → Option (Int32 × fh_H)) (o : Nat) : Nat → Int32 → Int32 → Int32 → Int32 → fh_H → Option (Int32 × fh_H)
  | 0, _, _, _, _, _ => none
  | n + 1, v1, v2, v3, v4, h => b_Mo_ring_31 K N k6 k18 (l_Mo_ring_31 K N k6 k18 o n) o v1 v2 v3 v4 h
def b_Mo_ring_18 (K : Nat → ClassId) (N : Nat) (k6 : Int32 → Int32 → fh_H → Option (Int32 × fh_H)) (k18 : Int32 → Int32 → Int32 → fh_H → Option (Int32 × fh_H)) (o : Nat) (v1 : Int32) (v2 : Int32) (v3 : Int32) (h : fh_H) : Option (Int32 × fh_H) :=
  (fg_i h (some o) 6 0).bind fun x1 => if x1 ≤ v3 then ((some (v2 + 1)).bind fun x2 => k6 v1 x2 h) else ((some (v3 + 1)).bind fun x3 => l_Mo_ring_31 K N k6 k18 o N v1 v2 v3 x3 h)
def l_Mo_ring_18 (K : Nat → ClassId) (N : Nat) (k6 : Int32 → Int32 → fh_H → Option (Int32 × fh_H)) (o : Nat) : Nat → Int32 → Int32 → Int32 → fh_H → Option (Int32 × fh_H)
  | 0, _, _, _, _ => none
  | n + 1, v1, v2, v3, h => b_Mo_ring_18 K N k6 (l_Mo_ring_18 K N k6 o n) o v1 v2 v3 h
def b_Mo_ring_6 (K : Nat → ClassId) (N : Nat) (k6 : Int32 → Int32 → fh_H → Option (Int32 × fh_H)) (o : Nat) (v1 : Int32) (v2 : Int32) (h : fh_H) : Option (Int32 × fh_H) :=
  (fg_i h (some o) 6 0).bind fun x1 => if x1 ≤ v2 then ((fg_o h (some o) 6).bind fun o2 => (f_Mo_set K N o2 v1 h).bind fun r3 => some (r3.1, r3.2)) else ((some (v2 + 1)).bind fun x4 => l_Mo_ring_18 K N k6 o N v1 v2 x4 h)
def l_Mo_ring_6 (K : Nat → ClassId) (N : Nat) (o : Nat) : Nat → Int32 → Int32 → fh_H → Option (Int32 × fh_H)
  | 0, _, _, _ => none
  | n + 1, v1, v2, h => b_Mo_ring_6 K N (l_Mo_ring_6 K N o n) o v1 v2 h
def f_Mo_ring (K : Nat → ClassId) (N : Nat) (o : Nat) (a1 : Int32) (h0 : fh_H) : Option (Int32 × fh_H) :=
  (fg_o h0 (some o) 6).bind fun o1 => (f_Mo_clearSets K N o1 h0).bind fun r2 => l_Mo_ring_6 K N o N a1 0 r2
set_option maxHeartbeats 4000000 in
set_option maxRecDepth 100000 in
theorem c_Mo_ring {l : Launch} {D : va_G} {K : Nat → ClassId} {t : Nat → Nat} {N : Nat} {o : Nat} {a1 : Int32} {h0 : fh_H} {res : Int32 × fh_H} (hf : f_Mo_ring K N o a1 h0 = some res) : fC l D K t y_Mo_ring c0_Mo_ring 7 (some .int) rm_Mo_ring [.ref o, .int a1] h0 (some (.int res.1)) res.2 := by
  refine fh_body (by decide) (Nat.le_of_ble_eq_true rfl) ?_
  intro p e s m below meth c A ls S hr hk hnm hE hAe hI hl
  obtain ⟨hx, hb, hml, hown, hts⟩ := id S
  have hl : lv_has ls 7 [(0, va_rf (some o)), (1, .int a1)] := hl
  have L6 : ∀ (n6 : Nat) (v1 : Int32) (v2 : Int32) (h : fh_H) (H : Heap) (locs : List Loc) (ls : Array Slot), lv_has ls 7 [(0, va_rf (some o)), (1, .int v1), (2, .int v2)] → fh_I D classes A s.heap h H locs → l_Mo_ring_6 K N o n6 v1 v2 h = some res → W p l e rm_Mo_ring s m [.ref o, .int a1].toArray below meth c H locs 0 0 (MQ below (fh_Q D classes h0 s.heap.size (some (.int res.1)) res.2) [.ref o, .int a1].toArray s 0 0 A) (F0 m 6 ls []) := by
    intro n6
    induction n6 with
    | zero =>
      intro v1 v2 h H locs ls hl hI hf
      exact fh_no hf
    | succ n6 ih6 =>
      have L18 : ∀ (n18 : Nat) (v1 : Int32) (v2 : Int32) (v3 : Int32) (h : fh_H) (H : Heap) (locs : List Loc) (ls : Array Slot), lv_has ls 7 [(0, va_rf (some o)), (1, .int v1), (2, .int v2), (3, .int v3)] → fh_I D classes A s.heap h H locs → l_Mo_ring_18 K N (l_Mo_ring_6 K N o n6) o n18 v1 v2 v3 h = some res → W p l e rm_Mo_ring s m [.ref o, .int a1].toArray below meth c H locs 0 0 (MQ below (fh_Q D classes h0 s.heap.size (some (.int res.1)) res.2) [.ref o, .int a1].toArray s 0 0 A) (F0 m 18 ls []) := by
        intro n18
        induction n18 with
        | zero =>
          intro v1 v2 v3 h H locs ls hl hI hf
          exact fh_no hf
        | succ n18 ih18 =>
          have L31 : ∀ (n31 : Nat) (v1 : Int32) (v2 : Int32) (v3 : Int32) (v4 : Int32) (h : fh_H) (H : Heap) (locs : List Loc) (ls : Array Slot), lv_has ls 7 [(0, va_rf (some o)), (1, .int v1), (2, .int v2), (3, .int v3), (4, .int v4)] → fh_I D classes A s.heap h H locs → l_Mo_ring_31 K N (l_Mo_ring_6 K N o n6) (l_Mo_ring_18 K N (l_Mo_ring_6 K N o n6) o n18) o n31 v1 v2 v3 v4 h = some res → W p l e rm_Mo_ring s m [.ref o, .int a1].toArray below meth c H locs 0 0 (MQ below (fh_Q D classes h0 s.heap.size (some (.int res.1)) res.2) [.ref o, .int a1].toArray s 0 0 A) (F0 m 31 ls []) := by
            intro n31
            induction n31 with
            | zero =>
              intro v1 v2 v3 v4 h H locs ls hl hI hf
              exact fh_no hf
            | succ n31 ih31 =>
              have B166 : ∀ (v1 : Int32) (v2 : Int32) (v3 : Int32) (v4 : Int32) (h : fh_H) (H : Heap) (locs : List Loc) (ls : Array Slot), lv_has ls 7 [(0, va_rf (some o)), (1, .int v1), (2, .int v2), (3, .int v3), (4, .int v4)] → fh_I D classes A s.heap h H locs → b_Mo_ring_166 K N (l_Mo_ring_6 K N o n6) (l_Mo_ring_18 K N (l_Mo_ring_6 K N o n6) o n18) (l_Mo_ring_31 K N (l_Mo_ring_6 K N o n6) (l_Mo_ring_18 K N (l_Mo_ring_6 K N o n6) o n18) o n31) o v1 v2 v3 v4 h = some res → W p l e rm_Mo_ring s m [.ref o, .int a1].toArray below meth c H locs 0 0 (MQ below (fh_Q D classes h0 s.heap.size (some (.int res.1)) res.2) [.ref o, .int a1].toArray s 0 0 A) (F0 m 166 ls []) := by
                intro v1 v2 v3 v4 h H locs ls hl hI hf
                unfold b_Mo_ring_166 at hf
                obtain ⟨x1, e_x1, hf⟩ := fh_b hf
                refine lv_iinc (v := x1) (lv' := [(4, .int x1), (0, va_rf (some o)), (1, .int v1), (2, .int v2), (3, .int v3)]) hx hb d_Mo_ring_166 hl (k := 4) rfl (by rw [fh_qe e_x1]; rfl) (by decide) rfl (fun ls hl => ?_)
                refine lv_goto (tgt := 31) hx hb d_Mo_ring_169 (by decide) ?_
                exact ih31 v1 v2 v3 x1 h _ _ _ (lv_sub hl [1, 2, 3, 4, 0] rfl) hI hf
              have B165 : ∀ (v1 : Int32) (v2 : Int32) (v3 : Int32) (v4 : Int32) (w0 : Option Nat) (w1 : Int32) (w2 : Int32) (h : fh_H) (H : Heap) (locs : List Loc) (ls : Array Slot), lv_has ls 7 [(0, va_rf (some o)), (1, .int v1), (2, .int v2), (3, .int v3), (4, .int v4)] → fh_I D classes A s.heap h H locs → b_Mo_ring_165 K N (l_Mo_ring_6 K N o n6) (l_Mo_ring_18 K N (l_Mo_ring_6 K N o n6) o n18) (l_Mo_ring_31 K N (l_Mo_ring_6 K N o n6) (l_Mo_ring_18 K N (l_Mo_ring_6 K N o n6) o n18) o n31) o v1 v2 v3 v4 w0 w1 w2 h = some res → W p l e rm_Mo_ring s m [.ref o, .int a1].toArray below meth c H locs 0 0 (MQ below (fh_Q D classes h0 s.heap.size (some (.int res.1)) res.2) [.ref o, .int a1].toArray s 0 0 A) (F0 m 165 ls [.int w2, .int w1, va_rf w0]) := by
                intro v1 v2 v3 v4 w0 w1 w2 h H locs ls hl hI hf
                unfold b_Mo_ring_165 at hf
                obtain ⟨h1, e_h1, hf⟩ := fh_b hf
                refine fh_zast S hE.1 hI 2 rfl e_h1 d_Mo_ring_165 (fun H locs hI => ?_)
                exact B166 v1 v2 v3 v4 h1 _ _ _ (lv_sub hl [0, 1, 2, 3, 4] rfl) hI hf
              have B160 : ∀ (v1 : Int32) (v2 : Int32) (v3 : Int32) (v4 : Int32) (w0 : Option Nat) (w1 : Int32) (h : fh_H) (H : Heap) (locs : List Loc) (ls : Array Slot), lv_has ls 7 [(0, va_rf (some o)), (1, .int v1), (2, .int v2), (3, .int v3), (4, .int v4)] → fh_I D classes A s.heap h H locs → b_Mo_ring_160 K N (l_Mo_ring_6 K N o n6) (l_Mo_ring_18 K N (l_Mo_ring_6 K N o n6) o n18) (l_Mo_ring_31 K N (l_Mo_ring_6 K N o n6) (l_Mo_ring_18 K N (l_Mo_ring_6 K N o n6) o n18) o n31) o v1 v2 v3 v4 w0 w1 h = some res → W p l e rm_Mo_ring s m [.ref o, .int a1].toArray below meth c H locs 0 0 (MQ below (fh_Q D classes h0 s.heap.size (some (.int res.1)) res.2) [.ref o, .int a1].toArray s 0 0 A) (F0 m 160 ls [.int w1, va_rf w0]) := by
                intro v1 v2 v3 v4 w0 w1 h H locs ls hl hI hf
                unfold b_Mo_ring_160 at hf
                refine lv_iconst (v := 1) hx hb d_Mo_ring_160 (by decide) ?_
                refine lv_goto (tgt := 165) hx hb d_Mo_ring_161 (by decide) ?_
                exact B165 v1 v2 v3 v4 w0 w1 1 h _ _ _ (lv_sub hl [0, 1, 2, 3, 4] rfl) hI hf
              have B89 : ∀ (v1 : Int32) (v2 : Int32) (v3 : Int32) (v4 : Int32) (w0 : Int32) (h : fh_H) (H : Heap) (locs : List Loc) (ls : Array Slot), lv_has ls 7 [(0, va_rf (some o)), (1, .int v1), (2, .int v2), (3, .int v3), (4, .int v4)] → fh_I D classes A s.heap h H locs → b_Mo_ring_89 K N (l_Mo_ring_6 K N o n6) (l_Mo_ring_18 K N (l_Mo_ring_6 K N o n6) o n18) (l_Mo_ring_31 K N (l_Mo_ring_6 K N o n6) (l_Mo_ring_18 K N (l_Mo_ring_6 K N o n6) o n18) o n31) o v1 v2 v3 v4 w0 h = some res → W p l e rm_Mo_ring s m [.ref o, .int a1].toArray below meth c H locs 0 0 (MQ below (fh_Q D classes h0 s.heap.size (some (.int res.1)) res.2) [.ref o, .int a1].toArray s 0 0 A) (F0 m 89 ls [.int w0]) := by
                intro v1 v2 v3 v4 w0 h H locs ls hl hI hf
                unfold b_Mo_ring_89 at hf
                refine lv_istore (lv' := [(5, .int w0), (0, va_rf (some o)), (1, .int v1), (2, .int v2), (3, .int v3), (4, .int v4)]) hx hb d_Mo_ring_89 hl (by decide) rfl (fun ls hl => ?_)
                refine fh_aload_n S d_Mo_ring_91 rfl (lv_at hl 1 rfl) ?_
                refine lv_iload_n hx hb d_Mo_ring_92 rfl (lv_at hl 3 rfl) ?_
                refine lv_iload_n hx hb d_Mo_ring_93 rfl (lv_at hl 4 rfl) ?_
                refine lv_iload hx hb d_Mo_ring_94 (lv_at hl 5 rfl) ?_
                refine lv_iconst (v := 0) hx hb d_Mo_ring_96 (by decide) ?_
                refine lv_iconst (v := 0) hx hb d_Mo_ring_97 (by decide) ?_
                refine lv_iconst (v := 0) hx hb d_Mo_ring_98 (by decide) ?_
                obtain ⟨o1, e_o1, hf⟩ := fh_b hf
                obtain ⟨r2, e_r2, hf⟩ := fh_b hf
                refine fh_callV (As := [.int v2, .int v3, .int v4, .int 0, .int 0, .int 0]) (rest := []) S fT_good hE hI e_o1 rfl (c_Mo_setRow e_r2) fy_Mo_setRow fst_Mo_setRow k_184 ⟨rfl, rfl⟩ ⟨Nat.le_of_ble_eq_true rfl, Nat.le_of_ble_eq_true rfl⟩ ⟨Nat.zero_le _, Nat.zero_le _⟩ rfl hl.1 rfl (Nat.le_of_ble_eq_true rfl) d_Mo_ring_99 (fun H locs hI => ?_)
                refine lv_iload hx hb d_Mo_ring_102 (lv_at hl 0 rfl) ?_
                refine lv_if_eq (tgt := 166) hx hb d_Mo_ring_104 (by decide) (fun c_104 => ?_) (fun c_104 => ?_)
                · replace hf := fh_t c_104 hf
                  exact B166 v1 v2 v3 v4 r2 _ _ _ (lv_sub hl [1, 2, 3, 4, 5] rfl) hI hf
                · replace hf := fh_f c_104 hf
                  refine fh_aload_n S d_Mo_ring_107 rfl (lv_at hl 1 rfl) ?_
                  obtain ⟨o3, e_o3, hf⟩ := fh_b hf
                  obtain ⟨r4, e_r4, hf⟩ := fh_b hf
                  refine fh_callV (As := []) (rest := []) S fT_good hE hI e_o3 rfl (c_Mo_standing e_r4) fy_Mo_standing fst_Mo_standing k_176 ⟨rfl, rfl⟩ ⟨Nat.le_of_ble_eq_true rfl, Nat.le_of_ble_eq_true rfl⟩ ⟨Nat.zero_le _, Nat.zero_le _⟩ rfl hl.1 rfl (Nat.le_of_ble_eq_true rfl) d_Mo_ring_108 (fun H locs hI => ?_)
                  refine lv_if_le (tgt := 166) hx hb d_Mo_ring_111 (by decide) (fun c_111 => ?_) (fun c_111 => ?_)
                  · replace hf := fh_t c_111 hf
                    exact B166 v1 v2 v3 v4 r4.2 _ _ _ (lv_sub hl [1, 2, 3, 4, 5] rfl) hI hf
                  · replace hf := fh_f c_111 hf
                    refine fh_aload_n S d_Mo_ring_114 rfl (lv_at hl 1 rfl) ?_
                    refine lv_iconst (v := 1) hx hb d_Mo_ring_115 (by decide) ?_
                    refine lv_iconst (v := 0) hx hb d_Mo_ring_116 (by decide) ?_
                    refine lv_iconst (v := 0) hx hb d_Mo_ring_117 (by decide) ?_
                    obtain ⟨o5, e_o5, hf⟩ := fh_b hf
                    obtain ⟨r6, e_r6, hf⟩ := fh_b hf
                    refine fh_callV (As := [.int 1, .int 0, .int 0]) (rest := []) S fT_good hE hI e_o5 rfl (c_Mo_isAlways e_r6) fy_Mo_isAlways fst_Mo_isAlways k_186 ⟨rfl, rfl⟩ ⟨Nat.le_of_ble_eq_true rfl, Nat.le_of_ble_eq_true rfl⟩ ⟨Nat.zero_le _, Nat.zero_le _⟩ rfl hl.1 rfl (Nat.le_of_ble_eq_true rfl) d_Mo_ring_118 (fun H locs hI => ?_)
                    refine lv_if_ne (tgt := 166) hx hb d_Mo_ring_121 (by decide) (fun c_121 => ?_) (fun c_121 => ?_)
                    · replace hf := fh_f c_121 hf
                      exact B166 v1 v2 v3 v4 r6.2 _ _ _ (lv_sub hl [1, 2, 3, 4, 5] rfl) hI hf
                    · replace hf := fh_t c_121 hf
                      refine fh_aload_n S d_Mo_ring_124 rfl (lv_at hl 1 rfl) ?_
                      refine lv_iload_n hx hb d_Mo_ring_125 rfl (lv_at hl 3 rfl) ?_
                      refine lv_iload_n hx hb d_Mo_ring_126 rfl (lv_at hl 4 rfl) ?_
                      refine lv_iload hx hb d_Mo_ring_127 (lv_at hl 5 rfl) ?_
                      obtain ⟨o7, e_o7, hf⟩ := fh_b hf
                      obtain ⟨r8, e_r8, hf⟩ := fh_b hf
                      refine fh_callV (As := [.int v2, .int v3, .int v4]) (rest := []) S fT_good hE hI e_o7 rfl (c_Mo_ringThrough e_r8) fy_Mo_ringThrough fst_Mo_ringThrough k_210 ⟨rfl, rfl⟩ ⟨Nat.le_of_ble_eq_true rfl, Nat.le_of_ble_eq_true rfl⟩ ⟨Nat.zero_le _, Nat.zero_le _⟩ rfl hl.1 rfl (Nat.le_of_ble_eq_true rfl) d_Mo_ring_129 (fun H locs hI => ?_)
                      refine lv_istore (lv' := [(6, .int r8.1), (5, .int w0), (0, va_rf (some o)), (1, .int v1), (2, .int v2), (3, .int v3), (4, .int v4)]) hx hb d_Mo_ring_132 hl (by decide) rfl (fun ls hl => ?_)
                      refine fh_aload_n S d_Mo_ring_134 rfl (lv_at hl 2 rfl) ?_
                      obtain ⟨x9, e_x9, hf⟩ := fh_b hf
                      refine fh_geta S hE.1 hI e_x9 (hc := rfl) (hin := in_6) (by decide) (hts _ k_206) d_Mo_ring_135 ?_
                      refine lv_iload hx hb d_Mo_ring_138 (lv_at hl 0 rfl) ?_
                      refine fh_aload_n S d_Mo_ring_140 rfl (lv_at hl 2 rfl) ?_
                      obtain ⟨x10, e_x10, hf⟩ := fh_b hf
                      refine fh_geta S hE.1 hI e_x10 (hc := rfl) (hin := in_6) (by decide) (hts _ k_206) d_Mo_ring_141 ?_
                      refine lv_iload hx hb d_Mo_ring_144 (lv_at hl 0 rfl) ?_
                      obtain ⟨x11, e_x11, hf⟩ := fh_b hf
                      refine fh_zald S hE.1 hI 2 rfl e_x11 d_Mo_ring_146 ?_
                      refine lv_if_ne (tgt := 160) hx hb d_Mo_ring_147 (by decide) (fun c_147 => ?_) (fun c_147 => ?_)
                      · replace hf := fh_f c_147 hf
                        exact B160 v1 v2 v3 v4 x9 r8.1 r8.2 _ _ _ (lv_sub hl [2, 3, 4, 5, 6] rfl) hI hf
                      · replace hf := fh_t c_147 hf
                        refine fh_aload_n S d_Mo_ring_150 rfl (lv_at hl 2 rfl) ?_
                        refine lv_iload hx hb d_Mo_ring_151 (lv_at hl 0 rfl) ?_
                        obtain ⟨o12, e_o12, hf⟩ := fh_b hf
                        obtain ⟨r13, e_r13, hf⟩ := fh_b hf
                        refine fh_callV (As := [.int r8.1]) (rest := [.int r8.1, va_rf x9]) S fT_good hE hI e_o12 rfl (c_Mo_places e_r13) fy_Mo_places fst_Mo_places k_188 ⟨rfl, rfl⟩ ⟨Nat.le_of_ble_eq_true rfl, Nat.le_of_ble_eq_true rfl⟩ ⟨Nat.zero_le _, Nat.zero_le _⟩ rfl hl.1 rfl (Nat.le_trans (fh_cat _) (Nat.le_of_ble_eq_true rfl)) d_Mo_ring_153 (fun H locs hI => ?_)
                        refine lv_iconst (v := 3) hx hb d_Mo_ring_156 (by decide) ?_
                        refine lv_icmp_le (tgt := 164) hx hb d_Mo_ring_157 (by decide) (fun c_157 => ?_) (fun c_157 => ?_)
                        · replace hf := fh_t c_157 hf
                          refine lv_iconst (v := 0) hx hb d_Mo_ring_164 (by decide) ?_
                          exact B165 v1 v2 v3 v4 x9 r8.1 0 r13.2 _ _ _ (lv_sub hl [2, 3, 4, 5, 6] rfl) hI hf
                        · replace hf := fh_f c_157 hf
                          exact B160 v1 v2 v3 v4 x9 r8.1 r13.2 _ _ _ (lv_sub hl [2, 3, 4, 5, 6] rfl) hI hf
              have B88 : ∀ (v1 : Int32) (v2 : Int32) (v3 : Int32) (v4 : Int32) (h : fh_H) (H : Heap) (locs : List Loc) (ls : Array Slot), lv_has ls 7 [(0, va_rf (some o)), (1, .int v1), (2, .int v2), (3, .int v3), (4, .int v4)] → fh_I D classes A s.heap h H locs → b_Mo_ring_88 K N (l_Mo_ring_6 K N o n6) (l_Mo_ring_18 K N (l_Mo_ring_6 K N o n6) o n18) (l_Mo_ring_31 K N (l_Mo_ring_6 K N o n6) (l_Mo_ring_18 K N (l_Mo_ring_6 K N o n6) o n18) o n31) o v1 v2 v3 v4 h = some res → W p l e rm_Mo_ring s m [.ref o, .int a1].toArray below meth c H locs 0 0 (MQ below (fh_Q D classes h0 s.heap.size (some (.int res.1)) res.2) [.ref o, .int a1].toArray s 0 0 A) (F0 m 88 ls []) := by
                intro v1 v2 v3 v4 h H locs ls hl hI hf
                unfold b_Mo_ring_88 at hf
                refine lv_iconst (v := 0) hx hb d_Mo_ring_88 (by decide) ?_
                exact B89 v1 v2 v3 v4 0 h _ _ _ (lv_sub hl [0, 1, 2, 3, 4] rfl) hI hf
              intro v1 v2 v3 v4 h H locs ls hl hI hf
              have hf : b_Mo_ring_31 K N (l_Mo_ring_6 K N o n6) (l_Mo_ring_18 K N (l_Mo_ring_6 K N o n6) o n18) (l_Mo_ring_31 K N (l_Mo_ring_6 K N o n6) (l_Mo_ring_18 K N (l_Mo_ring_6 K N o n6) o n18) o n31) o v1 v2 v3 v4 h = some res := hf
              unfold b_Mo_ring_31 at hf
              refine lv_iload hx hb d_Mo_ring_31 (lv_at hl 4 rfl) ?_
              refine fh_aload_n S d_Mo_ring_33 rfl (lv_at hl 0 rfl) ?_
              obtain ⟨x1, e_x1, hf⟩ := fh_b hf
              refine fh_geti S hE.1 hI e_x1 (hc := rfl) (hin := in_6) (by decide) (hts _ k_163) d_Mo_ring_34 ?_
              refine lv_icmp_ge (tgt := 172) hx hb d_Mo_ring_37 (by decide) (fun c_37 => ?_) (fun c_37 => ?_)
              · replace hf := fh_t c_37 hf
                obtain ⟨x2, e_x2, hf⟩ := fh_b hf
                refine lv_iinc (v := x2) (lv' := [(3, .int x2), (0, va_rf (some o)), (1, .int v1), (2, .int v2), (4, .int v4)]) hx hb d_Mo_ring_172 hl (k := 3) rfl (by rw [fh_qe e_x2]; rfl) (by decide) rfl (fun ls hl => ?_)
                refine lv_goto (tgt := 18) hx hb d_Mo_ring_175 (by decide) ?_
                exact ih18 v1 v2 x2 h _ _ _ (lv_sub hl [1, 2, 3, 0] rfl) hI hf
              · replace hf := fh_f c_37 hf
                refine fh_aload_n S d_Mo_ring_40 rfl (lv_at hl 0 rfl) ?_
                obtain ⟨x3, e_x3, hf⟩ := fh_b hf
                refine fh_geta S hE.1 hI e_x3 (hc := rfl) (hin := in_6) (by decide) (hts _ k_185) d_Mo_ring_41 ?_
                refine lv_bipush (v := 10) hx hb d_Mo_ring_44 (by decide) ?_
                refine lv_iload_n hx hb d_Mo_ring_46 rfl (lv_at hl 2 rfl) ?_
                refine lv_imul hx hb d_Mo_ring_47 ?_
                refine lv_iload_n hx hb d_Mo_ring_48 rfl (lv_at hl 3 rfl) ?_
                refine lv_iadd hx hb d_Mo_ring_49 ?_
                obtain ⟨x4, e_x4, hf⟩ := fh_b hf
                refine fh_zald S hE.1 hI 2 rfl e_x4 d_Mo_ring_50 ?_
                refine lv_if_ne (tgt := 88) hx hb d_Mo_ring_51 (by decide) (fun c_51 => ?_) (fun c_51 => ?_)
                · replace hf := fh_f c_51 hf
                  exact B88 v1 v2 v3 v4 h _ _ _ (lv_sub hl [0, 1, 2, 3, 4] rfl) hI hf
                · replace hf := fh_t c_51 hf
                  refine fh_aload_n S d_Mo_ring_54 rfl (lv_at hl 0 rfl) ?_
                  obtain ⟨x5, e_x5, hf⟩ := fh_b hf
                  refine fh_geta S hE.1 hI e_x5 (hc := rfl) (hin := in_6) (by decide) (hts _ k_185) d_Mo_ring_55 ?_
                  refine lv_bipush (v := 10) hx hb d_Mo_ring_58 (by decide) ?_
                  refine lv_iload_n hx hb d_Mo_ring_60 rfl (lv_at hl 2 rfl) ?_
                  refine lv_imul hx hb d_Mo_ring_61 ?_
                  refine lv_iload hx hb d_Mo_ring_62 (lv_at hl 4 rfl) ?_
                  refine lv_iadd hx hb d_Mo_ring_64 ?_
                  obtain ⟨x6, e_x6, hf⟩ := fh_b hf
                  refine fh_zald S hE.1 hI 2 rfl e_x6 d_Mo_ring_65 ?_
                  refine lv_if_ne (tgt := 88) hx hb d_Mo_ring_66 (by decide) (fun c_66 => ?_) (fun c_66 => ?_)
                  · replace hf := fh_f c_66 hf
                    exact B88 v1 v2 v3 v4 h _ _ _ (lv_sub hl [0, 1, 2, 3, 4] rfl) hI hf
                  · replace hf := fh_t c_66 hf
                    refine fh_aload_n S d_Mo_ring_69 rfl (lv_at hl 0 rfl) ?_
                    obtain ⟨x7, e_x7, hf⟩ := fh_b hf
                    refine fh_geta S hE.1 hI e_x7 (hc := rfl) (hin := in_6) (by decide) (hts _ k_185) d_Mo_ring_70 ?_
                    refine lv_bipush (v := 10) hx hb d_Mo_ring_73 (by decide) ?_
                    refine lv_iload_n hx hb d_Mo_ring_75 rfl (lv_at hl 3 rfl) ?_
                    refine lv_imul hx hb d_Mo_ring_76 ?_
                    refine lv_iload hx hb d_Mo_ring_77 (lv_at hl 4 rfl) ?_
                    refine lv_iadd hx hb d_Mo_ring_79 ?_
                    obtain ⟨x8, e_x8, hf⟩ := fh_b hf
                    refine fh_zald S hE.1 hI 2 rfl e_x8 d_Mo_ring_80 ?_
                    refine lv_if_ne (tgt := 88) hx hb d_Mo_ring_81 (by decide) (fun c_81 => ?_) (fun c_81 => ?_)
                    · replace hf := fh_f c_81 hf
                      exact B88 v1 v2 v3 v4 h _ _ _ (lv_sub hl [0, 1, 2, 3, 4] rfl) hI hf
                    · replace hf := fh_t c_81 hf
                      refine lv_iconst (v := 1) hx hb d_Mo_ring_84 (by decide) ?_
                      refine lv_goto (tgt := 89) hx hb d_Mo_ring_85 (by decide) ?_
                      exact B89 v1 v2 v3 v4 1 h _ _ _ (lv_sub hl [0, 1, 2, 3, 4] rfl) hI hf
          intro v1 v2 v3 h H locs ls hl hI hf
          have hf : b_Mo_ring_18 K N (l_Mo_ring_6 K N o n6) (l_Mo_ring_18 K N (l_Mo_ring_6 K N o n6) o n18) o v1 v2 v3 h = some res := hf
          unfold b_Mo_ring_18 at hf
          refine lv_iload_n hx hb d_Mo_ring_18 rfl (lv_at hl 3 rfl) ?_
          refine fh_aload_n S d_Mo_ring_19 rfl (lv_at hl 0 rfl) ?_
          obtain ⟨x1, e_x1, hf⟩ := fh_b hf
          refine fh_geti S hE.1 hI e_x1 (hc := rfl) (hin := in_6) (by decide) (hts _ k_163) d_Mo_ring_20 ?_
          refine lv_icmp_ge (tgt := 178) hx hb d_Mo_ring_23 (by decide) (fun c_23 => ?_) (fun c_23 => ?_)
          · replace hf := fh_t c_23 hf
            obtain ⟨x2, e_x2, hf⟩ := fh_b hf
            refine lv_iinc (v := x2) (lv' := [(2, .int x2), (0, va_rf (some o)), (1, .int v1), (3, .int v3)]) hx hb d_Mo_ring_178 hl (k := 2) rfl (by rw [fh_qe e_x2]; rfl) (by decide) rfl (fun ls hl => ?_)
            refine lv_goto (tgt := 6) hx hb d_Mo_ring_181 (by decide) ?_
            exact ih6 v1 x2 h _ _ _ (lv_sub hl [1, 2, 0] rfl) hI hf
          · replace hf := fh_f c_23 hf
            refine lv_iload_n hx hb d_Mo_ring_26 rfl (lv_at hl 3 rfl) ?_
            refine lv_iconst (v := 1) hx hb d_Mo_ring_27 (by decide) ?_
            refine lv_iadd hx hb d_Mo_ring_28 ?_
            obtain ⟨x3, e_x3, hf⟩ := fh_b hf
            refine fh_topi e_x3 ?_
            refine lv_istore (lv' := [(4, .int x3), (0, va_rf (some o)), (1, .int v1), (2, .int v2), (3, .int v3)]) hx hb d_Mo_ring_29 hl (by decide) rfl (fun ls hl => ?_)
            exact L31 N v1 v2 v3 x3 h _ _ _ (lv_sub hl [1, 2, 3, 4, 0] rfl) hI hf
      intro v1 v2 h H locs ls hl hI hf
      have hf : b_Mo_ring_6 K N (l_Mo_ring_6 K N o n6) o v1 v2 h = some res := hf
      unfold b_Mo_ring_6 at hf
      refine lv_iload_n hx hb d_Mo_ring_6 rfl (lv_at hl 2 rfl) ?_
      refine fh_aload_n S d_Mo_ring_7 rfl (lv_at hl 0 rfl) ?_
      obtain ⟨x1, e_x1, hf⟩ := fh_b hf
      refine fh_geti S hE.1 hI e_x1 (hc := rfl) (hin := in_6) (by decide) (hts _ k_163) d_Mo_ring_8 ?_
      refine lv_icmp_ge (tgt := 184) hx hb d_Mo_ring_11 (by decide) (fun c_11 => ?_) (fun c_11 => ?_)
      · replace hf := fh_t c_11 hf
        refine fh_aload_n S d_Mo_ring_184 rfl (lv_at hl 0 rfl) ?_
        refine lv_iload_n hx hb d_Mo_ring_185 rfl (lv_at hl 1 rfl) ?_
        obtain ⟨o2, e_o2, hf⟩ := fh_b hf
        obtain ⟨r3, e_r3, hf⟩ := fh_b hf
        refine fh_callV (As := [.int v1]) (rest := []) S fT_good hE hI e_o2 rfl (c_Mo_set e_r3) fy_Mo_set fst_Mo_set k_209 ⟨rfl, rfl⟩ ⟨Nat.le_of_ble_eq_true rfl, Nat.le_of_ble_eq_true rfl⟩ ⟨Nat.zero_le _, Nat.zero_le _⟩ rfl hl.1 rfl (Nat.le_of_ble_eq_true rfl) d_Mo_ring_186 (fun H locs hI => ?_)
        obtain rfl := Option.some.inj hf
        exact fh_iret S hr hk rfl hAe hI d_Mo_ring_189
      · replace hf := fh_f c_11 hf
        refine lv_iload_n hx hb d_Mo_ring_14 rfl (lv_at hl 2 rfl) ?_
        refine lv_iconst (v := 1) hx hb d_Mo_ring_15 (by decide) ?_
        refine lv_iadd hx hb d_Mo_ring_16 ?_
        obtain ⟨x4, e_x4, hf⟩ := fh_b hf
        refine fh_topi e_x4 ?_
        refine lv_istore_n (lv' := [(3, .int x4), (0, va_rf (some o)), (1, .int v1), (2, .int v2)]) hx hb d_Mo_ring_17 rfl hl (by decide) rfl (fun ls hl => ?_)
        exact L18 N v1 v2 x4 h _ _ _ (lv_sub hl [1, 2, 3, 0] rfl) hI hf
  unfold f_Mo_ring at hf
  refine fh_aload_n S d_Mo_ring_0 rfl (lv_at hl 0 rfl) ?_
  obtain ⟨o1, e_o1, hf⟩ := fh_b hf
  obtain ⟨r2, e_r2, hf⟩ := fh_b hf
  refine fh_callV (As := []) (rest := []) S fT_good hE hI e_o1 rfl (c_Mo_clearSets e_r2) fy_Mo_clearSets fst_Mo_clearSets k_207 ⟨rfl, rfl⟩ ⟨Nat.le_of_ble_eq_true rfl, Nat.le_of_ble_eq_true rfl⟩ ⟨Nat.zero_le _, Nat.zero_le _⟩ rfl hl.1 rfl (Nat.le_of_ble_eq_true rfl) d_Mo_ring_1 (fun H locs hI => ?_)
  refine lv_iconst (v := 0) hx hb d_Mo_ring_4 (by decide) ?_
  refine lv_istore_n (lv' := [(2, .int 0), (0, va_rf (some o)), (1, .int a1)]) hx hb d_Mo_ring_5 rfl hl (by decide) rfl (fun ls hl => ?_)
  exact L6 N a1 0 r2 _ _ _ (lv_sub hl [1, 2, 0] rfl) hI hf
