theorem d_Fs_isApart_0 : decode c0_Fs_isApart 0 = .ok (.iconst 0, 1) := by decide +kernel
theorem d_Fs_isApart_1 : decode c0_Fs_isApart 1 = .ok (.istore_n 3, 1) := by decide +kernel
theorem d_Fs_isApart_2 : decode c0_Fs_isApart 2 = .ok (.iconst 0, 1) := by decide +kernel
theorem d_Fs_isApart_3 : decode c0_Fs_isApart 3 = .ok (.istore 4, 2) := by decide +kernel
theorem d_Fs_isApart_5 : decode c0_Fs_isApart 5 = .ok (.iconst 0, 1) := by decide +kernel
theorem d_Fs_isApart_6 : decode c0_Fs_isApart 6 = .ok (.istore 5, 2) := by decide +kernel
theorem d_Fs_isApart_8 : decode c0_Fs_isApart 8 = .ok (.iload 5, 2) := by decide +kernel
theorem d_Fs_isApart_10 : decode c0_Fs_isApart 10 = .ok (.getstatic 118, 3) := by decide +kernel
theorem d_Fs_isApart_13 : decode c0_Fs_isApart 13 = .ok (.iload_n 1, 1) := by decide +kernel
theorem d_Fs_isApart_14 : decode c0_Fs_isApart 14 = .ok (.iaload, 1) := by decide +kernel
theorem d_Fs_isApart_15 : decode c0_Fs_isApart 15 = .ok (.if_icmp .ge 38, 3) := by decide +kernel
theorem d_Fs_isApart_18 : decode c0_Fs_isApart 18 = .ok (.iload_n 2, 1) := by decide +kernel
theorem d_Fs_isApart_19 : decode c0_Fs_isApart 19 = .ok (.iload 5, 2) := by decide +kernel
theorem d_Fs_isApart_21 : decode c0_Fs_isApart 21 = .ok (.invokestatic 121, 3) := by decide +kernel
theorem d_Fs_isApart_24 : decode c0_Fs_isApart 24 = .ok (.istore 6, 2) := by decide +kernel
theorem d_Fs_isApart_26 : decode c0_Fs_isApart 26 = .ok (.iload_n 3, 1) := by decide +kernel
theorem d_Fs_isApart_27 : decode c0_Fs_isApart 27 = .ok (.iconst 1, 1) := by decide +kernel
theorem d_Fs_isApart_28 : decode c0_Fs_isApart 28 = .ok (.iload 6, 2) := by decide +kernel
theorem d_Fs_isApart_30 : decode c0_Fs_isApart 30 = .ok (.ishl, 1) := by decide +kernel
theorem d_Fs_isApart_31 : decode c0_Fs_isApart 31 = .ok (.ior, 1) := by decide +kernel
theorem d_Fs_isApart_32 : decode c0_Fs_isApart 32 = .ok (.istore_n 3, 1) := by decide +kernel
theorem d_Fs_isApart_33 : decode c0_Fs_isApart 33 = .ok (.iload 4, 2) := by decide +kernel
theorem d_Fs_isApart_35 : decode c0_Fs_isApart 35 = .ok (.iconst 1, 1) := by decide +kernel
theorem d_Fs_isApart_36 : decode c0_Fs_isApart 36 = .ok (.aload_n 0, 1) := by decide +kernel
theorem d_Fs_isApart_37 : decode c0_Fs_isApart 37 = .ok (.getfield 34, 3) := by decide +kernel
theorem d_Fs_isApart_40 : decode c0_Fs_isApart 40 = .ok (.iload 6, 2) := by decide +kernel
theorem d_Fs_isApart_42 : decode c0_Fs_isApart 42 = .ok (.iaload, 1) := by decide +kernel
theorem d_Fs_isApart_43 : decode c0_Fs_isApart 43 = .ok (.ishl, 1) := by decide +kernel
theorem d_Fs_isApart_44 : decode c0_Fs_isApart 44 = .ok (.ior, 1) := by decide +kernel
theorem d_Fs_isApart_45 : decode c0_Fs_isApart 45 = .ok (.istore 4, 2) := by decide +kernel
theorem d_Fs_isApart_47 : decode c0_Fs_isApart 47 = .ok (.iinc 5 1, 3) := by decide +kernel
theorem d_Fs_isApart_50 : decode c0_Fs_isApart 50 = .ok (.goto (-42), 3) := by decide +kernel
theorem d_Fs_isApart_53 : decode c0_Fs_isApart 53 = .ok (.iload_n 3, 1) := by decide +kernel
theorem d_Fs_isApart_54 : decode c0_Fs_isApart 54 = .ok (.invokestatic 113, 3) := by decide +kernel
theorem d_Fs_isApart_57 : decode c0_Fs_isApart 57 = .ok (.iload 4, 2) := by decide +kernel
theorem d_Fs_isApart_59 : decode c0_Fs_isApart 59 = .ok (.invokestatic 113, 3) := by decide +kernel
theorem d_Fs_isApart_62 : decode c0_Fs_isApart 62 = .ok (.if_icmp .ne 7, 3) := by decide +kernel
theorem d_Fs_isApart_65 : decode c0_Fs_isApart 65 = .ok (.iconst 1, 1) := by decide +kernel
theorem d_Fs_isApart_66 : decode c0_Fs_isApart 66 = .ok (.goto 4, 3) := by decide +kernel
theorem d_Fs_isApart_69 : decode c0_Fs_isApart 69 = .ok (.iconst 0, 1) := by decide +kernel
theorem d_Fs_isApart_70 : decode c0_Fs_isApart 70 = .ok (.ireturn, 1) := by decide +kernel
def b_Fs_isApart_8 (K : Nat → ClassId) (N : Nat) (k8 : Int32 → Int32 → Int32 → Int32 → Int32 → fh_H → Option (Int32 × fh_H)) (o : Nat) (v1 : Int32) (v2 : Int32) (v3 : Int32) (v4 : Int32) (v5 : Int32) (h : fh_H) : Option (Int32 × fh_H) :=
  (ft_i 9 tb_2 v1).bind fun x1 => if x1 ≤ v5 then ((f_In_bitCount K N v3 h).bind fun r2 => (f_In_bitCount K N v4 r2.2).bind fun r3 => if r2.1 = r3.1 then (some (1, r3.2)) else (some (0, r3.2))) else ((f_FF_unpack K N v2 v5 h).bind fun r4 => (some (v3 ||| ((1 : Int32) <<< (r4.1 &&& 31)))).bind fun x5 => (fg_a r4.2 (some o) 2 4).bind fun x6 => (fa_i (K 0) r4.2 x6 r4.1).bind fun x7 => (some (v4 ||| ((1 : Int32) <<< (x7 &&& 31)))).bind fun x8 => (some (v5 + 1)).bind fun x9 => k8 v1 v2 x5 x8 x9 r4.2)
def l_Fs_isApart_8 (K : Nat → ClassId) (N : Nat) (o : Nat) : Nat → Int32 → Int32 → Int32 → Int32 → Int32 → fh_H → Option (Int32 × fh_H)
  | 0, _, _, _, _, _, _ => none
  | n + 1, v1, v2, v3, v4, v5, h => b_Fs_isApart_8 K N (l_Fs_isApart_8 K N o n) o v1 v2 v3 v4 v5 h
def f_Fs_isApart (K : Nat → ClassId) (N : Nat) (o : Nat) (a1 : Int32) (a2 : Int32) (h0 : fh_H) : Option (Int32 × fh_H) :=
  l_Fs_isApart_8 K N o N a1 a2 0 0 0 h0
set_option maxHeartbeats 4000000 in
set_option maxRecDepth 100000 in
theorem c_Fs_isApart {l : Launch} {D : va_G} {K : Nat → ClassId} {t : Nat → Nat} {N : Nat} {o : Nat} {a1 : Int32} {a2 : Int32} {h0 : fh_H} {res : Int32 × fh_H} (hf : f_Fs_isApart K N o a1 a2 h0 = some res) : fC l D K t y_Fs_isApart c0_Fs_isApart 7 (some .boolean) rm_Fs_isApart [.ref o, .int a1, .int a2] h0 (some (.int res.1)) res.2 := by
  refine fh_body (by decide) (Nat.le_of_ble_eq_true rfl) ?_
  intro p e s m below meth c A ls S hr hk hnm hE hAe hI hl
  obtain ⟨hx, hb, hml, hown, hts⟩ := id S
  have hl : lv_has ls 7 [(0, va_rf (some o)), (1, .int a1), (2, .int a2)] := hl
  have L8 : ∀ (n8 : Nat) (v1 : Int32) (v2 : Int32) (v3 : Int32) (v4 : Int32) (v5 : Int32) (h : fh_H) (H : Heap) (locs : List Loc) (ls : Array Slot), lv_has ls 7 [(0, va_rf (some o)), (1, .int v1), (2, .int v2), (3, .int v3), (4, .int v4), (5, .int v5)] → fh_I D classes A s.heap h H locs → l_Fs_isApart_8 K N o n8 v1 v2 v3 v4 v5 h = some res → W p l e rm_Fs_isApart s m [.ref o, .int a1, .int a2].toArray below meth c H locs 0 0 (MQ below (fh_Q D classes h0 s.heap.size (some (.int res.1)) res.2) [.ref o, .int a1, .int a2].toArray s 0 0 A) (F0 m 8 ls []) := by
    intro n8
    induction n8 with
    | zero =>
      intro v1 v2 v3 v4 v5 h H locs ls hl hI hf
      exact fh_no hf
    | succ n8 ih8 =>
      intro v1 v2 v3 v4 v5 h H locs ls hl hI hf
      have hf : b_Fs_isApart_8 K N (l_Fs_isApart_8 K N o n8) o v1 v2 v3 v4 v5 h = some res := hf
      unfold b_Fs_isApart_8 at hf
      refine lv_iload hx hb d_Fs_isApart_8 (lv_at hl 5 rfl) ?_
      refine fh_gettN S hE.2.1 hI (k := 2) rfl (hE.2.2.1 _ kn_6).2 d_Fs_isApart_10 ?_
      refine lv_iload_n hx hb d_Fs_isApart_13 rfl (lv_at hl 1 rfl) ?_
      obtain ⟨x1, e_x1, hf⟩ := fh_b hf
      refine fh_tald S hE.2.1 hI (k := 2) rfl e_x1 d_Fs_isApart_14 ?_
      refine lv_icmp_ge (tgt := 53) hx hb d_Fs_isApart_15 (by decide) (fun c_15 => ?_) (fun c_15 => ?_)
      · replace hf := fh_t c_15 hf
        refine lv_iload_n hx hb d_Fs_isApart_53 rfl (lv_at hl 3 rfl) ?_
        obtain ⟨r2, e_r2, hf⟩ := fh_b hf
        refine fh_callS (As := [.int v3]) (rest := []) S fT_good hE hI (c_In_bitCount e_r2) fy_In_bitCount fst_In_bitCount k_69 ⟨rfl, rfl⟩ ⟨Nat.le_of_ble_eq_true rfl, Nat.le_of_ble_eq_true rfl⟩ ⟨Nat.zero_le _, Nat.zero_le _⟩ rfl hl.1 rfl (Nat.le_of_ble_eq_true rfl) d_Fs_isApart_54 (fun H locs hI => ?_)
        refine lv_iload hx hb d_Fs_isApart_57 (lv_at hl 4 rfl) ?_
        obtain ⟨r3, e_r3, hf⟩ := fh_b hf
        refine fh_callS (As := [.int v4]) (rest := [.int r2.1]) S fT_good hE hI (c_In_bitCount e_r3) fy_In_bitCount fst_In_bitCount k_69 ⟨rfl, rfl⟩ ⟨Nat.le_of_ble_eq_true rfl, Nat.le_of_ble_eq_true rfl⟩ ⟨Nat.zero_le _, Nat.zero_le _⟩ rfl hl.1 rfl (Nat.le_of_ble_eq_true rfl) d_Fs_isApart_59 (fun H locs hI => ?_)
        refine lv_icmp_ne (tgt := 69) hx hb d_Fs_isApart_62 (by decide) (fun c_62 => ?_) (fun c_62 => ?_)
        · replace hf := fh_f c_62 hf
          refine lv_iconst (v := 0) hx hb d_Fs_isApart_69 (by decide) ?_
          obtain rfl := Option.some.inj hf
          exact fh_iret S hr hk (fh_nb (Or.inl rfl)) hAe hI d_Fs_isApart_70
        · replace hf := fh_t c_62 hf
          refine lv_iconst (v := 1) hx hb d_Fs_isApart_65 (by decide) ?_
          refine lv_goto (tgt := 70) hx hb d_Fs_isApart_66 (by decide) ?_
          obtain rfl := Option.some.inj hf
          exact fh_iret S hr hk (fh_nb (Or.inr rfl)) hAe hI d_Fs_isApart_70
      · replace hf := fh_f c_15 hf
        refine lv_iload_n hx hb d_Fs_isApart_18 rfl (lv_at hl 2 rfl) ?_
        refine lv_iload hx hb d_Fs_isApart_19 (lv_at hl 5 rfl) ?_
        obtain ⟨r4, e_r4, hf⟩ := fh_b hf
        refine fh_callSN (As := [.int v2, .int v5]) (rest := []) S fT_good hE hI (c_FF_unpack e_r4) fy_FF_unpack fst_FF_unpack kn_7 ⟨rfl, rfl⟩ ⟨Nat.le_of_ble_eq_true rfl, Nat.le_of_ble_eq_true rfl⟩ ⟨Nat.zero_le _, Nat.zero_le _⟩ rfl hl.1 rfl (Nat.le_of_ble_eq_true rfl) d_Fs_isApart_21 (fun H locs hI => ?_)
        refine lv_istore (lv' := [(6, .int r4.1), (0, va_rf (some o)), (1, .int v1), (2, .int v2), (3, .int v3), (4, .int v4), (5, .int v5)]) hx hb d_Fs_isApart_24 hl (by decide) rfl (fun ls hl => ?_)
        refine lv_iload_n hx hb d_Fs_isApart_26 rfl (lv_at hl 4 rfl) ?_
        refine lv_iconst (v := 1) hx hb d_Fs_isApart_27 (by decide) ?_
        refine lv_iload hx hb d_Fs_isApart_28 (lv_at hl 0 rfl) ?_
        refine lv_ishl hx hb d_Fs_isApart_30 ?_
        refine lv_ior hx hb d_Fs_isApart_31 ?_
        obtain ⟨x5, e_x5, hf⟩ := fh_b hf
        refine fh_topi e_x5 ?_
        refine lv_istore_n (lv' := [(3, .int x5), (6, .int r4.1), (0, va_rf (some o)), (1, .int v1), (2, .int v2), (4, .int v4), (5, .int v5)]) hx hb d_Fs_isApart_32 rfl hl (by decide) rfl (fun ls hl => ?_)
        refine lv_iload hx hb d_Fs_isApart_33 (lv_at hl 5 rfl) ?_
        refine lv_iconst (v := 1) hx hb d_Fs_isApart_35 (by decide) ?_
        refine fh_aload_n S d_Fs_isApart_36 rfl (lv_at hl 2 rfl) ?_
        obtain ⟨x6, e_x6, hf⟩ := fh_b hf
        refine fh_geta S hE.1 hI e_x6 (hc := rfl) (hin := in_2) (by decide) (hts _ k_63) d_Fs_isApart_37 ?_
        refine lv_iload hx hb d_Fs_isApart_40 (lv_at hl 1 rfl) ?_
        obtain ⟨x7, e_x7, hf⟩ := fh_b hf
        refine fh_iald S hE.1 hI 0 rfl e_x7 d_Fs_isApart_42 ?_
        refine lv_ishl hx hb d_Fs_isApart_43 ?_
        refine lv_ior hx hb d_Fs_isApart_44 ?_
        obtain ⟨x8, e_x8, hf⟩ := fh_b hf
        refine fh_topi e_x8 ?_
        refine lv_istore (lv' := [(4, .int x8), (3, .int x5), (6, .int r4.1), (0, va_rf (some o)), (1, .int v1), (2, .int v2), (5, .int v5)]) hx hb d_Fs_isApart_45 hl (by decide) rfl (fun ls hl => ?_)
        obtain ⟨x9, e_x9, hf⟩ := fh_b hf
        refine lv_iinc (v := x9) (lv' := [(5, .int x9), (4, .int x8), (3, .int x5), (6, .int r4.1), (0, va_rf (some o)), (1, .int v1), (2, .int v2)]) hx hb d_Fs_isApart_47 hl (k := 6) rfl (by rw [fh_qe e_x9]; rfl) (by decide) rfl (fun ls hl => ?_)
        refine lv_goto (tgt := 8) hx hb d_Fs_isApart_50 (by decide) ?_
        exact ih8 v1 v2 x5 x8 x9 r4.2 _ _ _ (lv_sub hl [4, 5, 6, 2, 1, 0] rfl) hI hf
  unfold f_Fs_isApart at hf
  refine lv_iconst (v := 0) hx hb d_Fs_isApart_0 (by decide) ?_
  refine lv_istore_n (lv' := [(3, .int 0), (0, va_rf (some o)), (1, .int a1), (2, .int a2)]) hx hb d_Fs_isApart_1 rfl hl (by decide) rfl (fun ls hl => ?_)
  refine lv_iconst (v := 0) hx hb d_Fs_isApart_2 (by decide) ?_
  refine lv_istore (lv' := [(4, .int 0), (3, .int 0), (0, va_rf (some o)), (1, .int a1), (2, .int a2)]) hx hb d_Fs_isApart_3 hl (by decide) rfl (fun ls hl => ?_)
  refine lv_iconst (v := 0) hx hb d_Fs_isApart_5 (by decide) ?_
  refine lv_istore (lv' := [(5, .int 0), (4, .int 0), (3, .int 0), (0, va_rf (some o)), (1, .int a1), (2, .int a2)]) hx hb d_Fs_isApart_6 hl (by decide) rfl (fun ls hl => ?_)
  exact L8 N a1 a2 0 0 0 h0 _ _ _ (lv_sub hl [3, 4, 5, 2, 1, 0] rfl) hI hf
theorem d_Fs_consider_0 : decode c0_Fs_consider 0 = .ok (.aload_n 0, 1) := by decide +kernel
theorem d_Fs_consider_1 : decode c0_Fs_consider 1 = .ok (.getfield 12, 3) := by decide +kernel
theorem d_Fs_consider_4 : decode c0_Fs_consider 4 = .ok (.iload_n 1, 1) := by decide +kernel
theorem d_Fs_consider_5 : decode c0_Fs_consider 5 = .ok (.iload_n 2, 1) := by decide +kernel
theorem d_Fs_consider_6 : decode c0_Fs_consider 6 = .ok (.invokevirtual 102, 3) := by decide +kernel
theorem d_Fs_consider_9 : decode c0_Fs_consider 9 = .ok (.ifCond .eq 22, 3) := by decide +kernel
theorem d_Fs_consider_12 : decode c0_Fs_consider 12 = .ok (.aload_n 0, 1) := by decide +kernel
theorem d_Fs_consider_13 : decode c0_Fs_consider 13 = .ok (.iload_n 1, 1) := by decide +kernel
theorem d_Fs_consider_14 : decode c0_Fs_consider 14 = .ok (.iload_n 2, 1) := by decide +kernel
theorem d_Fs_consider_15 : decode c0_Fs_consider 15 = .ok (.invokevirtual 124, 3) := by decide +kernel
theorem d_Fs_consider_18 : decode c0_Fs_consider 18 = .ok (.ifCond .eq 13, 3) := by decide +kernel
theorem d_Fs_consider_21 : decode c0_Fs_consider 21 = .ok (.aload_n 0, 1) := by decide +kernel
theorem d_Fs_consider_22 : decode c0_Fs_consider 22 = .ok (.getfield 20, 3) := by decide +kernel
theorem d_Fs_consider_25 : decode c0_Fs_consider 25 = .ok (.iload_n 1, 1) := by decide +kernel
theorem d_Fs_consider_26 : decode c0_Fs_consider 26 = .ok (.aaload, 1) := by decide +kernel
theorem d_Fs_consider_27 : decode c0_Fs_consider 27 = .ok (.iload_n 2, 1) := by decide +kernel
theorem d_Fs_consider_28 : decode c0_Fs_consider 28 = .ok (.invokevirtual 127, 3) := by decide +kernel
theorem d_Fs_consider_31 : decode c0_Fs_consider 31 = .ok (.return_, 1) := by decide +kernel
def f_Fs_consider (K : Nat → ClassId) (N : Nat) (o : Nat) (a1 : Int32) (a2 : Int32) (h0 : fh_H) : Option (fh_H) :=
  (fg_a h0 (some o) 2 0).bind fun x1 => (fg_o h0 x1 3).bind fun o2 => (f_Dr_isShown K N o2 a1 a2 h0).bind fun r3 => if r3.1 = 0 then (some r3.2) else ((fg_o r3.2 (some o) 2).bind fun o4 => (f_Fs_isApart K N o4 a1 a2 r3.2).bind fun r5 => if r5.1 = 0 then (some r5.2) else ((fg_a r5.2 (some o) 2 1).bind fun x6 => (fa_a (K 4) r5.2 x6 a1).bind fun x7 => (fg_o r5.2 x7 5).bind fun o8 => (f_IL_add K N o8 a2 r5.2).bind fun r9 => some r9))
set_option maxHeartbeats 4000000 in
set_option maxRecDepth 100000 in
theorem c_Fs_consider {l : Launch} {D : va_G} {K : Nat → ClassId} {t : Nat → Nat} {N : Nat} {o : Nat} {a1 : Int32} {a2 : Int32} {h0 : fh_H} {res : fh_H} (hf : f_Fs_consider K N o a1 a2 h0 = some res) : fC l D K t y_Fs_consider c0_Fs_consider 3 none rm_Fs_consider [.ref o, .int a1, .int a2] h0 (none) res := by
  refine fh_body (by decide) (Nat.le_of_ble_eq_true rfl) ?_
  intro p e s m below meth c A ls S hr hk hnm hE hAe hI hl
  obtain ⟨hx, hb, hml, hown, hts⟩ := id S
  have hl : lv_has ls 3 [(0, va_rf (some o)), (1, .int a1), (2, .int a2)] := hl
  unfold f_Fs_consider at hf
  refine fh_aload_n S d_Fs_consider_0 rfl (lv_at hl 0 rfl) ?_
  obtain ⟨x1, e_x1, hf⟩ := fh_b hf
  refine fh_geta S hE.1 hI e_x1 (hc := rfl) (hin := in_2) (by decide) (hts _ k_64) d_Fs_consider_1 ?_
  refine lv_iload_n hx hb d_Fs_consider_4 rfl (lv_at hl 1 rfl) ?_
  refine lv_iload_n hx hb d_Fs_consider_5 rfl (lv_at hl 2 rfl) ?_
  obtain ⟨o2, e_o2, hf⟩ := fh_b hf
  obtain ⟨r3, e_r3, hf⟩ := fh_b hf
  refine fh_callV (As := [.int a1, .int a2]) (rest := []) S fT_good hE hI e_o2 rfl (c_Dr_isShown e_r3) fy_Dr_isShown fst_Dr_isShown k_65 ⟨rfl, rfl⟩ ⟨Nat.le_of_ble_eq_true rfl, Nat.le_of_ble_eq_true rfl⟩ ⟨Nat.zero_le _, Nat.zero_le _⟩ rfl hl.1 rfl (Nat.le_of_ble_eq_true rfl) d_Fs_consider_6 (fun H locs hI => ?_)
  refine lv_if_eq (tgt := 31) hx hb d_Fs_consider_9 (by decide) (fun c_9 => ?_) (fun c_9 => ?_)
  · replace hf := fh_t c_9 hf
    obtain rfl := Option.some.inj hf
    exact fh_vret S hr hk hAe hI d_Fs_consider_31
  · replace hf := fh_f c_9 hf
    refine fh_aload_n S d_Fs_consider_12 rfl (lv_at hl 0 rfl) ?_
    refine lv_iload_n hx hb d_Fs_consider_13 rfl (lv_at hl 1 rfl) ?_
    refine lv_iload_n hx hb d_Fs_consider_14 rfl (lv_at hl 2 rfl) ?_
    obtain ⟨o4, e_o4, hf⟩ := fh_b hf
    obtain ⟨r5, e_r5, hf⟩ := fh_b hf
    refine fh_callV (As := [.int a1, .int a2]) (rest := []) S fT_good hE hI e_o4 rfl (c_Fs_isApart e_r5) fy_Fs_isApart fst_Fs_isApart k_103 ⟨rfl, rfl⟩ ⟨Nat.le_of_ble_eq_true rfl, Nat.le_of_ble_eq_true rfl⟩ ⟨Nat.zero_le _, Nat.zero_le _⟩ rfl hl.1 rfl (Nat.le_of_ble_eq_true rfl) d_Fs_consider_15 (fun H locs hI => ?_)
    refine lv_if_eq (tgt := 31) hx hb d_Fs_consider_18 (by decide) (fun c_18 => ?_) (fun c_18 => ?_)
    · replace hf := fh_t c_18 hf
      obtain rfl := Option.some.inj hf
      exact fh_vret S hr hk hAe hI d_Fs_consider_31
    · replace hf := fh_f c_18 hf
      refine fh_aload_n S d_Fs_consider_21 rfl (lv_at hl 0 rfl) ?_
      obtain ⟨x6, e_x6, hf⟩ := fh_b hf
      refine fh_geta S hE.1 hI e_x6 (hc := rfl) (hin := in_2) (by decide) (hts _ k_101) d_Fs_consider_22 ?_
      refine lv_iload_n hx hb d_Fs_consider_25 rfl (lv_at hl 1 rfl) ?_
      obtain ⟨x7, e_x7, hf⟩ := fh_b hf
      refine fh_aald S hE.1 hI 4 rfl e_x7 d_Fs_consider_26 ?_
      refine lv_iload_n hx hb d_Fs_consider_27 rfl (lv_at hl 2 rfl) ?_
      obtain ⟨o8, e_o8, hf⟩ := fh_b hf
      obtain ⟨r9, e_r9, hf⟩ := fh_b hf
      refine fh_callV (As := [.int a2]) (rest := []) S fT_good hE hI e_o8 rfl (c_IL_add e_r9) fy_IL_add fst_IL_add k_102 ⟨rfl, rfl⟩ ⟨Nat.le_of_ble_eq_true rfl, Nat.le_of_ble_eq_true rfl⟩ ⟨Nat.zero_le _, Nat.zero_le _⟩ rfl hl.1 rfl (Nat.le_of_ble_eq_true rfl) d_Fs_consider_28 (fun H locs hI => ?_)
      obtain rfl := Option.some.inj hf
      exact fh_vret S hr hk hAe hI d_Fs_consider_31
theorem d_Fs_listTriples_0 : decode c0_Fs_listTriples 0 = .ok (.iconst 0, 1) := by decide +kernel
theorem d_Fs_listTriples_1 : decode c0_Fs_listTriples 1 = .ok (.istore_n 1, 1) := by decide +kernel
theorem d_Fs_listTriples_2 : decode c0_Fs_listTriples 2 = .ok (.iload_n 1, 1) := by decide +kernel
theorem d_Fs_listTriples_3 : decode c0_Fs_listTriples 3 = .ok (.aload_n 0, 1) := by decide +kernel
theorem d_Fs_listTriples_4 : decode c0_Fs_listTriples 4 = .ok (.getfield 48, 3) := by decide +kernel
theorem d_Fs_listTriples_7 : decode c0_Fs_listTriples 7 = .ok (.if_icmp .ge 56, 3) := by decide +kernel
theorem d_Fs_listTriples_10 : decode c0_Fs_listTriples 10 = .ok (.iload_n 1, 1) := by decide +kernel
theorem d_Fs_listTriples_11 : decode c0_Fs_listTriples 11 = .ok (.iconst 1, 1) := by decide +kernel
theorem d_Fs_listTriples_12 : decode c0_Fs_listTriples 12 = .ok (.iadd, 1) := by decide +kernel
theorem d_Fs_listTriples_13 : decode c0_Fs_listTriples 13 = .ok (.istore_n 2, 1) := by decide +kernel
theorem d_Fs_listTriples_14 : decode c0_Fs_listTriples 14 = .ok (.iload_n 2, 1) := by decide +kernel
theorem d_Fs_listTriples_15 : decode c0_Fs_listTriples 15 = .ok (.aload_n 0, 1) := by decide +kernel
theorem d_Fs_listTriples_16 : decode c0_Fs_listTriples 16 = .ok (.getfield 48, 3) := by decide +kernel
theorem d_Fs_listTriples_19 : decode c0_Fs_listTriples 19 = .ok (.if_icmp .ge 38, 3) := by decide +kernel
theorem d_Fs_listTriples_22 : decode c0_Fs_listTriples 22 = .ok (.iload_n 2, 1) := by decide +kernel
theorem d_Fs_listTriples_23 : decode c0_Fs_listTriples 23 = .ok (.iconst 1, 1) := by decide +kernel
theorem d_Fs_listTriples_24 : decode c0_Fs_listTriples 24 = .ok (.iadd, 1) := by decide +kernel
theorem d_Fs_listTriples_25 : decode c0_Fs_listTriples 25 = .ok (.istore_n 3, 1) := by decide +kernel
theorem d_Fs_listTriples_26 : decode c0_Fs_listTriples 26 = .ok (.iload_n 3, 1) := by decide +kernel
theorem d_Fs_listTriples_27 : decode c0_Fs_listTriples 27 = .ok (.aload_n 0, 1) := by decide +kernel
theorem d_Fs_listTriples_28 : decode c0_Fs_listTriples 28 = .ok (.getfield 48, 3) := by decide +kernel
theorem d_Fs_listTriples_31 : decode c0_Fs_listTriples 31 = .ok (.if_icmp .ge 20, 3) := by decide +kernel
theorem d_Fs_listTriples_34 : decode c0_Fs_listTriples 34 = .ok (.aload_n 0, 1) := by decide +kernel
theorem d_Fs_listTriples_35 : decode c0_Fs_listTriples 35 = .ok (.iconst 1, 1) := by decide +kernel
theorem d_Fs_listTriples_36 : decode c0_Fs_listTriples 36 = .ok (.iload_n 1, 1) := by decide +kernel
theorem d_Fs_listTriples_37 : decode c0_Fs_listTriples 37 = .ok (.iload_n 2, 1) := by decide +kernel
theorem d_Fs_listTriples_38 : decode c0_Fs_listTriples 38 = .ok (.iload_n 3, 1) := by decide +kernel
theorem d_Fs_listTriples_39 : decode c0_Fs_listTriples 39 = .ok (.invokestatic 98, 3) := by decide +kernel
theorem d_Fs_listTriples_42 : decode c0_Fs_listTriples 42 = .ok (.invokevirtual 130, 3) := by decide +kernel
theorem d_Fs_listTriples_45 : decode c0_Fs_listTriples 45 = .ok (.iinc 3 1, 3) := by decide +kernel
theorem d_Fs_listTriples_48 : decode c0_Fs_listTriples 48 = .ok (.goto (-22), 3) := by decide +kernel
theorem d_Fs_listTriples_51 : decode c0_Fs_listTriples 51 = .ok (.iinc 2 1, 3) := by decide +kernel
theorem d_Fs_listTriples_54 : decode c0_Fs_listTriples 54 = .ok (.goto (-40), 3) := by decide +kernel
theorem d_Fs_listTriples_57 : decode c0_Fs_listTriples 57 = .ok (.iinc 1 1, 3) := by decide +kernel
theorem d_Fs_listTriples_60 : decode c0_Fs_listTriples 60 = .ok (.goto (-58), 3) := by decide +kernel
theorem d_Fs_listTriples_63 : decode c0_Fs_listTriples 63 = .ok (.return_, 1) := by decide +kernel
def b_Fs_listTriples_26 (K : Nat → ClassId) (N : Nat) (k2 : Int32 → fh_H → Option (fh_H)) (k14 : Int32 → Int32 → fh_H → Option (fh_H)) (k26 : Int32 → Int32 → Int32 → fh_H → Option (fh_H)) (o : Nat) (v1 : Int32) (v2 : Int32) (v3 : Int32) (h : fh_H) : Option (fh_H) :=
  (fg_i h (some o) 2 7).bind fun x1 => if x1 ≤ v3 then ((some (v2 + 1)).bind fun x2 => k14 v1 x2 h) else ((f_FF_pack K N v1 v2 v3 h).bind fun r3 => (fg_o r3.2 (some o) 2).bind fun o4 => (f_Fs_consider K N o4 1 r3.1 r3.2).bind fun r5 => (some (v3 + 1)).bind fun x6 => k26 v1 v2 x6 r5)
def l_Fs_listTriples_26 (K : Nat → ClassId) (N : Nat) (k2 : Int32 → fh_H → Option (fh_H)) (k14 : Int32 → Int32 → fh_H → Option (fh_H)) (o : Nat) : Nat → Int32 → Int32 → Int32 → fh_H → Option (fh_H)
  | 0, _, _, _, _ => none
  | n + 1, v1, v2, v3, h => b_Fs_listTriples_26 K N k2 k14 (l_Fs_listTriples_26 K N k2 k14 o n) o v1 v2 v3 h
def b_Fs_listTriples_14 (K : Nat → ClassId) (N : Nat) (k2 : Int32 → fh_H → Option (fh_H)) (k14 : Int32 → Int32 → fh_H → Option (fh_H)) (o : Nat) (v1 : Int32) (v2 : Int32) (h : fh_H) : Option (fh_H) :=
  (fg_i h (some o) 2 7).bind fun x1 => if x1 ≤ v2 then ((some (v1 + 1)).bind fun x2 => k2 x2 h) else ((some (v2 + 1)).bind fun x3 => l_Fs_listTriples_26 K N k2 k14 o N v1 v2 x3 h)
def l_Fs_listTriples_14 (K : Nat → ClassId) (N : Nat) (k2 : Int32 → fh_H → Option (fh_H)) (o : Nat) : Nat → Int32 → Int32 → fh_H → Option (fh_H)
  | 0, _, _, _ => none
  | n + 1, v1, v2, h => b_Fs_listTriples_14 K N k2 (l_Fs_listTriples_14 K N k2 o n) o v1 v2 h
def b_Fs_listTriples_2 (K : Nat → ClassId) (N : Nat) (k2 : Int32 → fh_H → Option (fh_H)) (o : Nat) (v1 : Int32) (h : fh_H) : Option (fh_H) :=
  (fg_i h (some o) 2 7).bind fun x1 => if x1 ≤ v1 then (some h) else ((some (v1 + 1)).bind fun x2 => l_Fs_listTriples_14 K N k2 o N v1 x2 h)
def l_Fs_listTriples_2 (K : Nat → ClassId) (N : Nat) (o : Nat) : Nat → Int32 → fh_H → Option (fh_H)
  | 0, _, _ => none
  | n + 1, v1, h => b_Fs_listTriples_2 K N (l_Fs_listTriples_2 K N o n) o v1 h
def f_Fs_listTriples (K : Nat → ClassId) (N : Nat) (o : Nat)  (h0 : fh_H) : Option (fh_H) :=
  l_Fs_listTriples_2 K N o N 0 h0
set_option maxHeartbeats 4000000 in
set_option maxRecDepth 100000 in
theorem c_Fs_listTriples {l : Launch} {D : va_G} {K : Nat → ClassId} {t : Nat → Nat} {N : Nat} {o : Nat}  {h0 : fh_H} {res : fh_H} (hf : f_Fs_listTriples K N o  h0 = some res) : fC l D K t y_Fs_listTriples c0_Fs_listTriples 4 none rm_Fs_listTriples [.ref o] h0 (none) res := by
  refine fh_body (by decide) (Nat.le_of_ble_eq_true rfl) ?_
  intro p e s m below meth c A ls S hr hk hnm hE hAe hI hl
  obtain ⟨hx, hb, hml, hown, hts⟩ := id S
  have hl : lv_has ls 4 [(0, va_rf (some o))] := hl
  have L2 : ∀ (n2 : Nat) (v1 : Int32) (h : fh_H) (H : Heap) (locs : List Loc) (ls : Array Slot), lv_has ls 4 [(0, va_rf (some o)), (1, .int v1)] → fh_I D classes A s.heap h H locs → l_Fs_listTriples_2 K N o n2 v1 h = some res → W p l e rm_Fs_listTriples s m [.ref o].toArray below meth c H locs 0 0 (MQ below (fh_Q D classes h0 s.heap.size (none) res) [.ref o].toArray s 0 0 A) (F0 m 2 ls []) := by
    intro n2
    induction n2 with
    | zero =>
      intro v1 h H locs ls hl hI hf
      exact fh_no hf
    | succ n2 ih2 =>
      have L14 : ∀ (n14 : Nat) (v1 : Int32) (v2 : Int32) (h : fh_H) (H : Heap) (locs : List Loc) (ls : Array Slot), lv_has ls 4 [(0, va_rf (some o)), (1, .int v1), (2, .int v2)] → fh_I D classes A s.heap h H locs → l_Fs_listTriples_14 K N (l_Fs_listTriples_2 K N o n2) o n14 v1 v2 h = some res → W p l e rm_Fs_listTriples s m [.ref o].toArray below meth c H locs 0 0 (MQ below (fh_Q D classes h0 s.heap.size (none) res) [.ref o].toArray s 0 0 A) (F0 m 14 ls []) := by
        intro n14
        induction n14 with
        | zero =>
          intro v1 v2 h H locs ls hl hI hf
          exact fh_no hf
        | succ n14 ih14 =>
          have L26 : ∀ (n26 : Nat) (v1 : Int32) (v2 : Int32) (v3 : Int32) (h : fh_H) (H : Heap) (locs : List Loc) (ls : Array Slot), lv_has ls 4 [(0, va_rf (some o)), (1, .int v1), (2, .int v2), (3, .int v3)] → fh_I D classes A s.heap h H locs → l_Fs_listTriples_26 K N (l_Fs_listTriples_2 K N o n2) (l_Fs_listTriples_14 K N (l_Fs_listTriples_2 K N o n2) o n14) o n26 v1 v2 v3 h = some res → W p l e rm_Fs_listTriples s m [.ref o].toArray below meth c H locs 0 0 (MQ below (fh_Q D classes h0 s.heap.size (none) res) [.ref o].toArray s 0 0 A) (F0 m 26 ls []) := by
            intro n26
            induction n26 with
            | zero =>
              intro v1 v2 v3 h H locs ls hl hI hf
              exact fh_no hf
            | succ n26 ih26 =>
              intro v1 v2 v3 h H locs ls hl hI hf
              have hf : b_Fs_listTriples_26 K N (l_Fs_listTriples_2 K N o n2) (l_Fs_listTriples_14 K N (l_Fs_listTriples_2 K N o n2) o n14) (l_Fs_listTriples_26 K N (l_Fs_listTriples_2 K N o n2) (l_Fs_listTriples_14 K N (l_Fs_listTriples_2 K N o n2) o n14) o n26) o v1 v2 v3 h = some res := hf
              unfold b_Fs_listTriples_26 at hf
              refine lv_iload_n hx hb d_Fs_listTriples_26 rfl (lv_at hl 3 rfl) ?_
              refine fh_aload_n S d_Fs_listTriples_27 rfl (lv_at hl 0 rfl) ?_
              obtain ⟨x1, e_x1, hf⟩ := fh_b hf
              refine fh_geti S hE.1 hI e_x1 (hc := rfl) (hin := in_2) (by decide) (hts _ k_38) d_Fs_listTriples_28 ?_
              refine lv_icmp_ge (tgt := 51) hx hb d_Fs_listTriples_31 (by decide) (fun c_31 => ?_) (fun c_31 => ?_)
              · replace hf := fh_t c_31 hf
                obtain ⟨x2, e_x2, hf⟩ := fh_b hf
                refine lv_iinc (v := x2) (lv' := [(2, .int x2), (0, va_rf (some o)), (1, .int v1), (3, .int v3)]) hx hb d_Fs_listTriples_51 hl (k := 2) rfl (by rw [fh_qe e_x2]; rfl) (by decide) rfl (fun ls hl => ?_)
                refine lv_goto (tgt := 14) hx hb d_Fs_listTriples_54 (by decide) ?_
                exact ih14 v1 x2 h _ _ _ (lv_sub hl [1, 2, 0] rfl) hI hf
              · replace hf := fh_f c_31 hf
                refine fh_aload_n S d_Fs_listTriples_34 rfl (lv_at hl 0 rfl) ?_
                refine lv_iconst (v := 1) hx hb d_Fs_listTriples_35 (by decide) ?_
                refine lv_iload_n hx hb d_Fs_listTriples_36 rfl (lv_at hl 1 rfl) ?_
                refine lv_iload_n hx hb d_Fs_listTriples_37 rfl (lv_at hl 2 rfl) ?_
                refine lv_iload_n hx hb d_Fs_listTriples_38 rfl (lv_at hl 3 rfl) ?_
                obtain ⟨r3, e_r3, hf⟩ := fh_b hf
                refine fh_callSN (As := [.int v1, .int v2, .int v3]) (rest := [.int 1, va_rf (some o)]) S fT_good hE hI (c_FF_pack e_r3) fy_FF_pack fst_FF_pack kn_3 ⟨rfl, rfl⟩ ⟨Nat.le_of_ble_eq_true rfl, Nat.le_of_ble_eq_true rfl⟩ ⟨Nat.zero_le _, Nat.zero_le _⟩ rfl hl.1 rfl (Nat.le_of_ble_eq_true rfl) d_Fs_listTriples_39 (fun H locs hI => ?_)
                obtain ⟨o4, e_o4, hf⟩ := fh_b hf
                obtain ⟨r5, e_r5, hf⟩ := fh_b hf
                refine fh_callV (As := [.int 1, .int r3.1]) (rest := []) S fT_good hE hI e_o4 rfl (c_Fs_consider e_r5) fy_Fs_consider fst_Fs_consider k_104 ⟨rfl, rfl⟩ ⟨Nat.le_of_ble_eq_true rfl, Nat.le_of_ble_eq_true rfl⟩ ⟨Nat.zero_le _, Nat.zero_le _⟩ rfl hl.1 rfl (Nat.le_of_ble_eq_true rfl) d_Fs_listTriples_42 (fun H locs hI => ?_)
                obtain ⟨x6, e_x6, hf⟩ := fh_b hf
                refine lv_iinc (v := x6) (lv' := [(3, .int x6), (0, va_rf (some o)), (1, .int v1), (2, .int v2)]) hx hb d_Fs_listTriples_45 hl (k := 3) rfl (by rw [fh_qe e_x6]; rfl) (by decide) rfl (fun ls hl => ?_)
                refine lv_goto (tgt := 26) hx hb d_Fs_listTriples_48 (by decide) ?_
                exact ih26 v1 v2 x6 r5 _ _ _ (lv_sub hl [1, 2, 3, 0] rfl) hI hf
          intro v1 v2 h H locs ls hl hI hf
          have hf : b_Fs_listTriples_14 K N (l_Fs_listTriples_2 K N o n2) (l_Fs_listTriples_14 K N (l_Fs_listTriples_2 K N o n2) o n14) o v1 v2 h = some res := hf
          unfold b_Fs_listTriples_14 at hf
          refine lv_iload_n hx hb d_Fs_listTriples_14 rfl (lv_at hl 2 rfl) ?_
          refine fh_aload_n S d_Fs_listTriples_15 rfl (lv_at hl 0 rfl) ?_
          obtain ⟨x1, e_x1, hf⟩ := fh_b hf
          refine fh_geti S hE.1 hI e_x1 (hc := rfl) (hin := in_2) (by decide) (hts _ k_38) d_Fs_listTriples_16 ?_
          refine lv_icmp_ge (tgt := 57) hx hb d_Fs_listTriples_19 (by decide) (fun c_19 => ?_) (fun c_19 => ?_)
          · replace hf := fh_t c_19 hf
            obtain ⟨x2, e_x2, hf⟩ := fh_b hf
            refine lv_iinc (v := x2) (lv' := [(1, .int x2), (0, va_rf (some o)), (2, .int v2)]) hx hb d_Fs_listTriples_57 hl (k := 1) rfl (by rw [fh_qe e_x2]; rfl) (by decide) rfl (fun ls hl => ?_)
            refine lv_goto (tgt := 2) hx hb d_Fs_listTriples_60 (by decide) ?_
            exact ih2 x2 h _ _ _ (lv_sub hl [1, 0] rfl) hI hf
          · replace hf := fh_f c_19 hf
            refine lv_iload_n hx hb d_Fs_listTriples_22 rfl (lv_at hl 2 rfl) ?_
            refine lv_iconst (v := 1) hx hb d_Fs_listTriples_23 (by decide) ?_
            refine lv_iadd hx hb d_Fs_listTriples_24 ?_
            obtain ⟨x3, e_x3, hf⟩ := fh_b hf
            refine fh_topi e_x3 ?_
            refine lv_istore_n (lv' := [(3, .int x3), (0, va_rf (some o)), (1, .int v1), (2, .int v2)]) hx hb d_Fs_listTriples_25 rfl hl (by decide) rfl (fun ls hl => ?_)
            exact L26 N v1 v2 x3 h _ _ _ (lv_sub hl [1, 2, 3, 0] rfl) hI hf
      intro v1 h H locs ls hl hI hf
      have hf : b_Fs_listTriples_2 K N (l_Fs_listTriples_2 K N o n2) o v1 h = some res := hf
      unfold b_Fs_listTriples_2 at hf
      refine lv_iload_n hx hb d_Fs_listTriples_2 rfl (lv_at hl 1 rfl) ?_
      refine fh_aload_n S d_Fs_listTriples_3 rfl (lv_at hl 0 rfl) ?_
      obtain ⟨x1, e_x1, hf⟩ := fh_b hf
      refine fh_geti S hE.1 hI e_x1 (hc := rfl) (hin := in_2) (by decide) (hts _ k_38) d_Fs_listTriples_4 ?_
      refine lv_icmp_ge (tgt := 63) hx hb d_Fs_listTriples_7 (by decide) (fun c_7 => ?_) (fun c_7 => ?_)
      · replace hf := fh_t c_7 hf
        obtain rfl := Option.some.inj hf
        exact fh_vret S hr hk hAe hI d_Fs_listTriples_63
      · replace hf := fh_f c_7 hf
        refine lv_iload_n hx hb d_Fs_listTriples_10 rfl (lv_at hl 1 rfl) ?_
        refine lv_iconst (v := 1) hx hb d_Fs_listTriples_11 (by decide) ?_
        refine lv_iadd hx hb d_Fs_listTriples_12 ?_
        obtain ⟨x2, e_x2, hf⟩ := fh_b hf
        refine fh_topi e_x2 ?_
        refine lv_istore_n (lv' := [(2, .int x2), (0, va_rf (some o)), (1, .int v1)]) hx hb d_Fs_listTriples_13 rfl hl (by decide) rfl (fun ls hl => ?_)
        exact L14 N v1 x2 h _ _ _ (lv_sub hl [1, 2, 0] rfl) hI hf
  unfold f_Fs_listTriples at hf
  refine lv_iconst (v := 0) hx hb d_Fs_listTriples_0 (by decide) ?_
  refine lv_istore_n (lv' := [(1, .int 0), (0, va_rf (some o))]) hx hb d_Fs_listTriples_1 rfl hl (by decide) rfl (fun ls hl => ?_)
  exact L2 N 0 h0 _ _ _ (lv_sub hl [1, 0] rfl) hI hf
theorem d_Fs_listFours_0 : decode c0_Fs_listFours 0 = .ok (.iconst 0, 1) := by decide +kernel
theorem d_Fs_listFours_1 : decode c0_Fs_listFours 1 = .ok (.istore_n 1, 1) := by decide +kernel
theorem d_Fs_listFours_2 : decode c0_Fs_listFours 2 = .ok (.iload_n 1, 1) := by decide +kernel
theorem d_Fs_listFours_3 : decode c0_Fs_listFours 3 = .ok (.aload_n 0, 1) := by decide +kernel
theorem d_Fs_listFours_4 : decode c0_Fs_listFours 4 = .ok (.getfield 48, 3) := by decide +kernel
theorem d_Fs_listFours_7 : decode c0_Fs_listFours 7 = .ok (.if_icmp .ge 81, 3) := by decide +kernel
theorem d_Fs_listFours_10 : decode c0_Fs_listFours 10 = .ok (.iload_n 1, 1) := by decide +kernel
theorem d_Fs_listFours_11 : decode c0_Fs_listFours 11 = .ok (.iconst 1, 1) := by decide +kernel
theorem d_Fs_listFours_12 : decode c0_Fs_listFours 12 = .ok (.iadd, 1) := by decide +kernel
theorem d_Fs_listFours_13 : decode c0_Fs_listFours 13 = .ok (.istore_n 2, 1) := by decide +kernel
theorem d_Fs_listFours_14 : decode c0_Fs_listFours 14 = .ok (.iload_n 2, 1) := by decide +kernel
theorem d_Fs_listFours_15 : decode c0_Fs_listFours 15 = .ok (.aload_n 0, 1) := by decide +kernel
theorem d_Fs_listFours_16 : decode c0_Fs_listFours 16 = .ok (.getfield 48, 3) := by decide +kernel
theorem d_Fs_listFours_19 : decode c0_Fs_listFours 19 = .ok (.if_icmp .ge 63, 3) := by decide +kernel
theorem d_Fs_listFours_22 : decode c0_Fs_listFours 22 = .ok (.iload_n 2, 1) := by decide +kernel
theorem d_Fs_listFours_23 : decode c0_Fs_listFours 23 = .ok (.iconst 1, 1) := by decide +kernel
theorem d_Fs_listFours_24 : decode c0_Fs_listFours 24 = .ok (.iadd, 1) := by decide +kernel
theorem d_Fs_listFours_25 : decode c0_Fs_listFours 25 = .ok (.istore_n 3, 1) := by decide +kernel
theorem d_Fs_listFours_26 : decode c0_Fs_listFours 26 = .ok (.iload_n 3, 1) := by decide +kernel
theorem d_Fs_listFours_27 : decode c0_Fs_listFours 27 = .ok (.aload_n 0, 1) := by decide +kernel
theorem d_Fs_listFours_28 : decode c0_Fs_listFours 28 = .ok (.getfield 48, 3) := by decide +kernel
theorem d_Fs_listFours_31 : decode c0_Fs_listFours 31 = .ok (.if_icmp .ge 45, 3) := by decide +kernel
theorem d_Fs_listFours_34 : decode c0_Fs_listFours 34 = .ok (.iload_n 3, 1) := by decide +kernel
theorem d_Fs_listFours_35 : decode c0_Fs_listFours 35 = .ok (.iconst 1, 1) := by decide +kernel
theorem d_Fs_listFours_36 : decode c0_Fs_listFours 36 = .ok (.iadd, 1) := by decide +kernel
theorem d_Fs_listFours_37 : decode c0_Fs_listFours 37 = .ok (.istore 4, 2) := by decide +kernel
theorem d_Fs_listFours_39 : decode c0_Fs_listFours 39 = .ok (.iload 4, 2) := by decide +kernel
theorem d_Fs_listFours_41 : decode c0_Fs_listFours 41 = .ok (.aload_n 0, 1) := by decide +kernel
theorem d_Fs_listFours_42 : decode c0_Fs_listFours 42 = .ok (.getfield 48, 3) := by decide +kernel
theorem d_Fs_listFours_45 : decode c0_Fs_listFours 45 = .ok (.if_icmp .ge 25, 3) := by decide +kernel
theorem d_Fs_listFours_48 : decode c0_Fs_listFours 48 = .ok (.aload_n 0, 1) := by decide +kernel
theorem d_Fs_listFours_49 : decode c0_Fs_listFours 49 = .ok (.iconst 5, 1) := by decide +kernel
theorem d_Fs_listFours_50 : decode c0_Fs_listFours 50 = .ok (.iload_n 1, 1) := by decide +kernel
theorem d_Fs_listFours_51 : decode c0_Fs_listFours 51 = .ok (.iload_n 2, 1) := by decide +kernel
theorem d_Fs_listFours_52 : decode c0_Fs_listFours 52 = .ok (.iload_n 3, 1) := by decide +kernel
theorem d_Fs_listFours_53 : decode c0_Fs_listFours 53 = .ok (.invokestatic 98, 3) := by decide +kernel
theorem d_Fs_listFours_56 : decode c0_Fs_listFours 56 = .ok (.iload 4, 2) := by decide +kernel
theorem d_Fs_listFours_58 : decode c0_Fs_listFours 58 = .ok (.invokestatic 109, 3) := by decide +kernel
theorem d_Fs_listFours_61 : decode c0_Fs_listFours 61 = .ok (.invokevirtual 130, 3) := by decide +kernel
theorem d_Fs_listFours_64 : decode c0_Fs_listFours 64 = .ok (.iinc 4 1, 3) := by decide +kernel
theorem d_Fs_listFours_67 : decode c0_Fs_listFours 67 = .ok (.goto (-28), 3) := by decide +kernel
theorem d_Fs_listFours_70 : decode c0_Fs_listFours 70 = .ok (.iinc 3 1, 3) := by decide +kernel
theorem d_Fs_listFours_73 : decode c0_Fs_listFours 73 = .ok (.goto (-47), 3) := by decide +kernel
theorem d_Fs_listFours_76 : decode c0_Fs_listFours 76 = .ok (.iinc 2 1, 3) := by decide +kernel
theorem d_Fs_listFours_79 : decode c0_Fs_listFours 79 = .ok (.goto (-65), 3) := by decide +kernel
theorem d_Fs_listFours_82 : decode c0_Fs_listFours 82 = .ok (.iinc 1 1, 3) := by decide +kernel
theorem d_Fs_listFours_85 : decode c0_Fs_listFours 85 = .ok (.goto (-83), 3) := by decide +kernel
theorem d_Fs_listFours_88 : decode c0_Fs_listFours 88 = .ok (.return_, 1) := by decide +kernel
def b_Fs_listFours_39 (K : Nat → ClassId) (N : Nat) (k2 : Int32 → fh_H → Option (fh_H)) (k14 : Int32 → Int32 → fh_H → Option (fh_H)) (k26 : Int32 → Int32 → Int32 → fh_H → Option (fh_H)) (k39 : Int32 → Int32 → Int32 → Int32 → fh_H → Option (fh_H)) (o : Nat) (v1 : Int32) (v2 : Int32) (v3 : Int32) (v4 : Int32) (h : fh_H) : Option (fh_H) :=
  (fg_i h (some o) 2 7).bind fun x1 => if x1 ≤ v4 then ((some (v3 + 1)).bind fun x2 => k26 v1 v2 x2 h) else ((f_FF_pack K N v1 v2 v3 h).bind fun r3 => (f_FF_join K N r3.1 v4 r3.2).bind fun r4 => (fg_o r4.2 (some o) 2).bind fun o5 => (f_Fs_consider K N o5 5 r4.1 r4.2).bind fun r6 => (some (v4 + 1)).bind fun x7 => k39 v1 v2 v3 x7 r6)
def l_Fs_listFours_39 (K : Nat → ClassId) (N : Nat) (k2 : Int32 → fh_H → Option (fh_H)) (k14 : Int32 → Int32 → fh_H → Option (fh_H)) (k26 : Int32 → Int32 → Int32 → fh_H → Option (fh_H)) (o : Nat) : Nat → Int32 → Int32 → Int32 → Int32 → fh_H → Option (fh_H)
  | 0, _, _, _, _, _ => none
  | n + 1, v1, v2, v3, v4, h => b_Fs_listFours_39 K N k2 k14 k26 (l_Fs_listFours_39 K N k2 k14 k26 o n) o v1 v2 v3 v4 h
def b_Fs_listFours_26 (K : Nat → ClassId) (N : Nat) (k2 : Int32 → fh_H → Option (fh_H)) (k14 : Int32 → Int32 → fh_H → Option (fh_H)) (k26 : Int32 → Int32 → Int32 → fh_H → Option (fh_H)) (o : Nat) (v1 : Int32) (v2 : Int32) (v3 : Int32) (h : fh_H) : Option (fh_H) :=
  (fg_i h (some o) 2 7).bind fun x1 => if x1 ≤ v3 then ((some (v2 + 1)).bind fun x2 => k14 v1 x2 h) else ((some (v3 + 1)).bind fun x3 => l_Fs_listFours_39 K N k2 k14 k26 o N v1 v2 v3 x3 h)
def l_Fs_listFours_26 (K : Nat → ClassId) (N : Nat) (k2 : Int32 → fh_H → Option (fh_H)) (k14 : Int32 → Int32 → fh_H → Option (fh_H)) (o : Nat) : Nat → Int32 → Int32 → Int32 → fh_H → Option (fh_H)
  | 0, _, _, _, _ => none
  | n + 1, v1, v2, v3, h => b_Fs_listFours_26 K N k2 k14 (l_Fs_listFours_26 K N k2 k14 o n) o v1 v2 v3 h
def b_Fs_listFours_14 (K : Nat → ClassId) (N : Nat) (k2 : Int32 → fh_H → Option (fh_H)) (k14 : Int32 → Int32 → fh_H → Option (fh_H)) (o : Nat) (v1 : Int32) (v2 : Int32) (h : fh_H) : Option (fh_H) :=
  (fg_i h (some o) 2 7).bind fun x1 => if x1 ≤ v2 then ((some (v1 + 1)).bind fun x2 => k2 x2 h) else ((some (v2 + 1)).bind fun x3 => l_Fs_listFours_26 K N k2 k14 o N v1 v2 x3 h)
def l_Fs_listFours_14 (K : Nat → ClassId) (N : Nat) (k2 : Int32 → fh_H → Option (fh_H)) (o : Nat) : Nat → Int32 → Int32 → fh_H → Option (fh_H)
  | 0, _, _, _ => none
  | n + 1, v1, v2, h => b_Fs_listFours_14 K N k2 (l_Fs_listFours_14 K N k2 o n) o v1 v2 h
def b_Fs_listFours_2 (K : Nat → ClassId) (N : Nat) (k2 : Int32 → fh_H → Option (fh_H)) (o : Nat) (v1 : Int32) (h : fh_H) : Option (fh_H) :=
  (fg_i h (some o) 2 7).bind fun x1 => if x1 ≤ v1 then (some h) else ((some (v1 + 1)).bind fun x2 => l_Fs_listFours_14 K N k2 o N v1 x2 h)
def l_Fs_listFours_2 (K : Nat → ClassId) (N : Nat) (o : Nat) : Nat → Int32 → fh_H → Option (fh_H)
  | 0, _, _ => none
  | n + 1, v1, h => b_Fs_listFours_2 K N (l_Fs_listFours_2 K N o n) o v1 h
def f_Fs_listFours (K : Nat → ClassId) (N : Nat) (o : Nat)  (h0 : fh_H) : Option (fh_H) :=
  l_Fs_listFours_2 K N o N 0 h0
set_option maxHeartbeats 4000000 in
set_option maxRecDepth 100000 in
theorem c_Fs_listFours {l : Launch} {D : va_G} {K : Nat → ClassId} {t : Nat → Nat} {N : Nat} {o : Nat}  {h0 : fh_H} {res : fh_H} (hf : f_Fs_listFours K N o  h0 = some res) : fC l D K t y_Fs_listFours c0_Fs_listFours 5 none rm_Fs_listFours [.ref o] h0 (none) res := by
  refine fh_body (by decide) (Nat.le_of_ble_eq_true rfl) ?_
  intro p e s m below meth c A ls S hr hk hnm hE hAe hI hl
  obtain ⟨hx, hb, hml, hown, hts⟩ := id S
  have hl : lv_has ls 5 [(0, va_rf (some o))] := hl
  have L2 : ∀ (n2 : Nat) (v1 : Int32) (h : fh_H) (H : Heap) (locs : List Loc) (ls : Array Slot), lv_has ls 5 [(0, va_rf (some o)), (1, .int v1)] → fh_I D classes A s.heap h H locs → l_Fs_listFours_2 K N o n2 v1 h = some res → W p l e rm_Fs_listFours s m [.ref o].toArray below meth c H locs 0 0 (MQ below (fh_Q D classes h0 s.heap.size (none) res) [.ref o].toArray s 0 0 A) (F0 m 2 ls []) := by
    intro n2
    induction n2 with
    | zero =>
      intro v1 h H locs ls hl hI hf
      exact fh_no hf
    | succ n2 ih2 =>
      have L14 : ∀ (n14 : Nat) (v1 : Int32) (v2 : Int32) (h : fh_H) (H : Heap) (locs : List Loc) (ls : Array Slot), lv_has ls 5 [(0, va_rf (some o)), (1, .int v1), (2, .int v2)] → fh_I D classes A s.heap h H locs → l_Fs_listFours_14 K N (l_Fs_listFours_2 K N o n2) o n14 v1 v2 h = some res → W p l e rm_Fs_listFours s m [.ref o].toArray below meth c H locs 0 0 (MQ below (fh_Q D classes h0 s.heap.size (none) res) [.ref o].toArray s 0 0 A) (F0 m 14 ls []) := by
        intro n14
        induction n14 with
        | zero =>
          intro v1 v2 h H locs ls hl hI hf
          exact fh_no hf
        | succ n14 ih14 =>
          have L26 : ∀ (n26 : Nat) (v1 : Int32) (v2 : Int32) (v3 : Int32) (h : fh_H) (H : Heap) (locs : List Loc) (ls : Array Slot), lv_has ls 5 [(0, va_rf (some o)), (1, .int v1), (2, .int v2), (3, .int v3)] → fh_I D classes A s.heap h H locs → l_Fs_listFours_26 K N (l_Fs_listFours_2 K N o n2) (l_Fs_listFours_14 K N (l_Fs_listFours_2 K N o n2) o n14) o n26 v1 v2 v3 h = some res → W p l e rm_Fs_listFours s m [.ref o].toArray below meth c H locs 0 0 (MQ below (fh_Q D classes h0 s.heap.size (none) res) [.ref o].toArray s 0 0 A) (F0 m 26 ls []) := by
            intro n26
            induction n26 with
            | zero =>
              intro v1 v2 v3 h H locs ls hl hI hf
              exact fh_no hf
            | succ n26 ih26 =>
              have L39 : ∀ (n39 : Nat) (v1 : Int32) (v2 : Int32) (v3 : Int32) (v4 : Int32) (h : fh_H) (H : Heap) (locs : List Loc) (ls : Array Slot), lv_has ls 5 [(0, va_rf (some o)), (1, .int v1), (2, .int v2), (3, .int v3), (4, .int v4)] → fh_I D classes A s.heap h H locs → l_Fs_listFours_39 K N (l_Fs_listFours_2 K N o n2) (l_Fs_listFours_14 K N (l_Fs_listFours_2 K N o n2) o n14) (l_Fs_listFours_26 K N (l_Fs_listFours_2 K N o n2) (l_Fs_listFours_14 K N (l_Fs_listFours_2 K N o n2) o n14) o n26) o n39 v1 v2 v3 v4 h = some res → W p l e rm_Fs_listFours s m [.ref o].toArray below meth c H locs 0 0 (MQ below (fh_Q D classes h0 s.heap.size (none) res) [.ref o].toArray s 0 0 A) (F0 m 39 ls []) := by
                intro n39
                induction n39 with
                | zero =>
                  intro v1 v2 v3 v4 h H locs ls hl hI hf
                  exact fh_no hf
                | succ n39 ih39 =>
                  intro v1 v2 v3 v4 h H locs ls hl hI hf
                  have hf : b_Fs_listFours_39 K N (l_Fs_listFours_2 K N o n2) (l_Fs_listFours_14 K N (l_Fs_listFours_2 K N o n2) o n14) (l_Fs_listFours_26 K N (l_Fs_listFours_2 K N o n2) (l_Fs_listFours_14 K N (l_Fs_listFours_2 K N o n2) o n14) o n26) (l_Fs_listFours_39 K N (l_Fs_listFours_2 K N o n2) (l_Fs_listFours_14 K N (l_Fs_listFours_2 K N o n2) o n14) (l_Fs_listFours_26 K N (l_Fs_listFours_2 K N o n2) (l_Fs_listFours_14 K N (l_Fs_listFours_2 K N o n2) o n14) o n26) o n39) o v1 v2 v3 v4 h = some res := hf
                  unfold b_Fs_listFours_39 at hf
                  refine lv_iload hx hb d_Fs_listFours_39 (lv_at hl 4 rfl) ?_
                  refine fh_aload_n S d_Fs_listFours_41 rfl (lv_at hl 0 rfl) ?_
                  obtain ⟨x1, e_x1, hf⟩ := fh_b hf
                  refine fh_geti S hE.1 hI e_x1 (hc := rfl) (hin := in_2) (by decide) (hts _ k_38) d_Fs_listFours_42 ?_
                  refine lv_icmp_ge (tgt := 70) hx hb d_Fs_listFours_45 (by decide) (fun c_45 => ?_) (fun c_45 => ?_)
                  · replace hf := fh_t c_45 hf
                    obtain ⟨x2, e_x2, hf⟩ := fh_b hf
                    refine lv_iinc (v := x2) (lv' := [(3, .int x2), (0, va_rf (some o)), (1, .int v1), (2, .int v2), (4, .int v4)]) hx hb d_Fs_listFours_70 hl (k := 3) rfl (by rw [fh_qe e_x2]; rfl) (by decide) rfl (fun ls hl => ?_)
                    refine lv_goto (tgt := 26) hx hb d_Fs_listFours_73 (by decide) ?_
                    exact ih26 v1 v2 x2 h _ _ _ (lv_sub hl [1, 2, 3, 0] rfl) hI hf
                  · replace hf := fh_f c_45 hf
                    refine fh_aload_n S d_Fs_listFours_48 rfl (lv_at hl 0 rfl) ?_
                    refine lv_iconst (v := 5) hx hb d_Fs_listFours_49 (by decide) ?_
                    refine lv_iload_n hx hb d_Fs_listFours_50 rfl (lv_at hl 1 rfl) ?_
                    refine lv_iload_n hx hb d_Fs_listFours_51 rfl (lv_at hl 2 rfl) ?_
                    refine lv_iload_n hx hb d_Fs_listFours_52 rfl (lv_at hl 3 rfl) ?_
                    obtain ⟨r3, e_r3, hf⟩ := fh_b hf
                    refine fh_callSN (As := [.int v1, .int v2, .int v3]) (rest := [.int 5, va_rf (some o)]) S fT_good hE hI (c_FF_pack e_r3) fy_FF_pack fst_FF_pack kn_3 ⟨rfl, rfl⟩ ⟨Nat.le_of_ble_eq_true rfl, Nat.le_of_ble_eq_true rfl⟩ ⟨Nat.zero_le _, Nat.zero_le _⟩ rfl hl.1 rfl (Nat.le_of_ble_eq_true rfl) d_Fs_listFours_53 (fun H locs hI => ?_)
                    refine lv_iload hx hb d_Fs_listFours_56 (lv_at hl 4 rfl) ?_
                    obtain ⟨r4, e_r4, hf⟩ := fh_b hf
                    refine fh_callSN (As := [.int r3.1, .int v4]) (rest := [.int 5, va_rf (some o)]) S fT_good hE hI (c_FF_join e_r4) fy_FF_join fst_FF_join kn_8 ⟨rfl, rfl⟩ ⟨Nat.le_of_ble_eq_true rfl, Nat.le_of_ble_eq_true rfl⟩ ⟨Nat.zero_le _, Nat.zero_le _⟩ rfl hl.1 rfl (Nat.le_of_ble_eq_true rfl) d_Fs_listFours_58 (fun H locs hI => ?_)
                    obtain ⟨o5, e_o5, hf⟩ := fh_b hf
                    obtain ⟨r6, e_r6, hf⟩ := fh_b hf
                    refine fh_callV (As := [.int 5, .int r4.1]) (rest := []) S fT_good hE hI e_o5 rfl (c_Fs_consider e_r6) fy_Fs_consider fst_Fs_consider k_104 ⟨rfl, rfl⟩ ⟨Nat.le_of_ble_eq_true rfl, Nat.le_of_ble_eq_true rfl⟩ ⟨Nat.zero_le _, Nat.zero_le _⟩ rfl hl.1 rfl (Nat.le_of_ble_eq_true rfl) d_Fs_listFours_61 (fun H locs hI => ?_)
                    obtain ⟨x7, e_x7, hf⟩ := fh_b hf
                    refine lv_iinc (v := x7) (lv' := [(4, .int x7), (0, va_rf (some o)), (1, .int v1), (2, .int v2), (3, .int v3)]) hx hb d_Fs_listFours_64 hl (k := 4) rfl (by rw [fh_qe e_x7]; rfl) (by decide) rfl (fun ls hl => ?_)
                    refine lv_goto (tgt := 39) hx hb d_Fs_listFours_67 (by decide) ?_
                    exact ih39 v1 v2 v3 x7 r6 _ _ _ (lv_sub hl [1, 2, 3, 4, 0] rfl) hI hf
              intro v1 v2 v3 h H locs ls hl hI hf
              have hf : b_Fs_listFours_26 K N (l_Fs_listFours_2 K N o n2) (l_Fs_listFours_14 K N (l_Fs_listFours_2 K N o n2) o n14) (l_Fs_listFours_26 K N (l_Fs_listFours_2 K N o n2) (l_Fs_listFours_14 K N (l_Fs_listFours_2 K N o n2) o n14) o n26) o v1 v2 v3 h = some res := hf
              unfold b_Fs_listFours_26 at hf
              refine lv_iload_n hx hb d_Fs_listFours_26 rfl (lv_at hl 3 rfl) ?_
              refine fh_aload_n S d_Fs_listFours_27 rfl (lv_at hl 0 rfl) ?_
              obtain ⟨x1, e_x1, hf⟩ := fh_b hf
              refine fh_geti S hE.1 hI e_x1 (hc := rfl) (hin := in_2) (by decide) (hts _ k_38) d_Fs_listFours_28 ?_
              refine lv_icmp_ge (tgt := 76) hx hb d_Fs_listFours_31 (by decide) (fun c_31 => ?_) (fun c_31 => ?_)
              · replace hf := fh_t c_31 hf
                obtain ⟨x2, e_x2, hf⟩ := fh_b hf
                refine lv_iinc (v := x2) (lv' := [(2, .int x2), (0, va_rf (some o)), (1, .int v1), (3, .int v3)]) hx hb d_Fs_listFours_76 hl (k := 2) rfl (by rw [fh_qe e_x2]; rfl) (by decide) rfl (fun ls hl => ?_)
                refine lv_goto (tgt := 14) hx hb d_Fs_listFours_79 (by decide) ?_
                exact ih14 v1 x2 h _ _ _ (lv_sub hl [1, 2, 0] rfl) hI hf
              · replace hf := fh_f c_31 hf
                refine lv_iload_n hx hb d_Fs_listFours_34 rfl (lv_at hl 3 rfl) ?_
                refine lv_iconst (v := 1) hx hb d_Fs_listFours_35 (by decide) ?_
                refine lv_iadd hx hb d_Fs_listFours_36 ?_
                obtain ⟨x3, e_x3, hf⟩ := fh_b hf
                refine fh_topi e_x3 ?_
                refine lv_istore (lv' := [(4, .int x3), (0, va_rf (some o)), (1, .int v1), (2, .int v2), (3, .int v3)]) hx hb d_Fs_listFours_37 hl (by decide) rfl (fun ls hl => ?_)
                exact L39 N v1 v2 v3 x3 h _ _ _ (lv_sub hl [1, 2, 3, 4, 0] rfl) hI hf
          intro v1 v2 h H locs ls hl hI hf
          have hf : b_Fs_listFours_14 K N (l_Fs_listFours_2 K N o n2) (l_Fs_listFours_14 K N (l_Fs_listFours_2 K N o n2) o n14) o v1 v2 h = some res := hf
          unfold b_Fs_listFours_14 at hf
          refine lv_iload_n hx hb d_Fs_listFours_14 rfl (lv_at hl 2 rfl) ?_
          refine fh_aload_n S d_Fs_listFours_15 rfl (lv_at hl 0 rfl) ?_
          obtain ⟨x1, e_x1, hf⟩ := fh_b hf
          refine fh_geti S hE.1 hI e_x1 (hc := rfl) (hin := in_2) (by decide) (hts _ k_38) d_Fs_listFours_16 ?_
          refine lv_icmp_ge (tgt := 82) hx hb d_Fs_listFours_19 (by decide) (fun c_19 => ?_) (fun c_19 => ?_)
          · replace hf := fh_t c_19 hf
            obtain ⟨x2, e_x2, hf⟩ := fh_b hf
            refine lv_iinc (v := x2) (lv' := [(1, .int x2), (0, va_rf (some o)), (2, .int v2)]) hx hb d_Fs_listFours_82 hl (k := 1) rfl (by rw [fh_qe e_x2]; rfl) (by decide) rfl (fun ls hl => ?_)
            refine lv_goto (tgt := 2) hx hb d_Fs_listFours_85 (by decide) ?_
            exact ih2 x2 h _ _ _ (lv_sub hl [1, 0] rfl) hI hf
          · replace hf := fh_f c_19 hf
            refine lv_iload_n hx hb d_Fs_listFours_22 rfl (lv_at hl 2 rfl) ?_
            refine lv_iconst (v := 1) hx hb d_Fs_listFours_23 (by decide) ?_
            refine lv_iadd hx hb d_Fs_listFours_24 ?_
            obtain ⟨x3, e_x3, hf⟩ := fh_b hf
            refine fh_topi e_x3 ?_
            refine lv_istore_n (lv' := [(3, .int x3), (0, va_rf (some o)), (1, .int v1), (2, .int v2)]) hx hb d_Fs_listFours_25 rfl hl (by decide) rfl (fun ls hl => ?_)
            exact L26 N v1 v2 x3 h _ _ _ (lv_sub hl [1, 2, 3, 0] rfl) hI hf
      intro v1 h H locs ls hl hI hf
      have hf : b_Fs_listFours_2 K N (l_Fs_listFours_2 K N o n2) o v1 h = some res := hf
      unfold b_Fs_listFours_2 at hf
      refine lv_iload_n hx hb d_Fs_listFours_2 rfl (lv_at hl 1 rfl) ?_
      refine fh_aload_n S d_Fs_listFours_3 rfl (lv_at hl 0 rfl) ?_
      obtain ⟨x1, e_x1, hf⟩ := fh_b hf
      refine fh_geti S hE.1 hI e_x1 (hc := rfl) (hin := in_2) (by decide) (hts _ k_38) d_Fs_listFours_4 ?_
      refine lv_icmp_ge (tgt := 88) hx hb d_Fs_listFours_7 (by decide) (fun c_7 => ?_) (fun c_7 => ?_)
      · replace hf := fh_t c_7 hf
        obtain rfl := Option.some.inj hf
        exact fh_vret S hr hk hAe hI d_Fs_listFours_88
      · replace hf := fh_f c_7 hf
        refine lv_iload_n hx hb d_Fs_listFours_10 rfl (lv_at hl 1 rfl) ?_
        refine lv_iconst (v := 1) hx hb d_Fs_listFours_11 (by decide) ?_
        refine lv_iadd hx hb d_Fs_listFours_12 ?_
        obtain ⟨x2, e_x2, hf⟩ := fh_b hf
        refine fh_topi e_x2 ?_
        refine lv_istore_n (lv' := [(2, .int x2), (0, va_rf (some o)), (1, .int v1)]) hx hb d_Fs_listFours_13 rfl hl (by decide) rfl (fun ls hl => ?_)
        exact L14 N v1 x2 h _ _ _ (lv_sub hl [1, 2, 0] rfl) hI hf
  unfold f_Fs_listFours at hf
  refine lv_iconst (v := 0) hx hb d_Fs_listFours_0 (by decide) ?_
  refine lv_istore_n (lv' := [(1, .int 0), (0, va_rf (some o))]) hx hb d_Fs_listFours_1 rfl hl (by decide) rfl (fun ls hl => ?_)
  exact L2 N 0 h0 _ _ _ (lv_sub hl [1, 0] rfl) hI hf
theorem d_Fs_listMiddles_0 : decode c0_Fs_listMiddles 0 = .ok (.iconst 0, 1) := by decide +kernel
theorem d_Fs_listMiddles_1 : decode c0_Fs_listMiddles 1 = .ok (.istore_n 1, 1) := by decide +kernel
theorem d_Fs_listMiddles_2 : decode c0_Fs_listMiddles 2 = .ok (.iload_n 1, 1) := by decide +kernel
theorem d_Fs_listMiddles_3 : decode c0_Fs_listMiddles 3 = .ok (.aload_n 0, 1) := by decide +kernel
theorem d_Fs_listMiddles_4 : decode c0_Fs_listMiddles 4 = .ok (.getfield 48, 3) := by decide +kernel
theorem d_Fs_listMiddles_7 : decode c0_Fs_listMiddles 7 = .ok (.if_icmp .ge 65, 3) := by decide +kernel
theorem d_Fs_listMiddles_10 : decode c0_Fs_listMiddles 10 = .ok (.iconst 0, 1) := by decide +kernel
theorem d_Fs_listMiddles_11 : decode c0_Fs_listMiddles 11 = .ok (.istore_n 2, 1) := by decide +kernel
theorem d_Fs_listMiddles_12 : decode c0_Fs_listMiddles 12 = .ok (.iload_n 2, 1) := by decide +kernel
theorem d_Fs_listMiddles_13 : decode c0_Fs_listMiddles 13 = .ok (.aload_n 0, 1) := by decide +kernel
theorem d_Fs_listMiddles_14 : decode c0_Fs_listMiddles 14 = .ok (.getfield 48, 3) := by decide +kernel
theorem d_Fs_listMiddles_17 : decode c0_Fs_listMiddles 17 = .ok (.if_icmp .ge 49, 3) := by decide +kernel
theorem d_Fs_listMiddles_20 : decode c0_Fs_listMiddles 20 = .ok (.iload_n 2, 1) := by decide +kernel
theorem d_Fs_listMiddles_21 : decode c0_Fs_listMiddles 21 = .ok (.iconst 1, 1) := by decide +kernel
theorem d_Fs_listMiddles_22 : decode c0_Fs_listMiddles 22 = .ok (.iadd, 1) := by decide +kernel
theorem d_Fs_listMiddles_23 : decode c0_Fs_listMiddles 23 = .ok (.istore_n 3, 1) := by decide +kernel
theorem d_Fs_listMiddles_24 : decode c0_Fs_listMiddles 24 = .ok (.iload_n 3, 1) := by decide +kernel
theorem d_Fs_listMiddles_25 : decode c0_Fs_listMiddles 25 = .ok (.aload_n 0, 1) := by decide +kernel
theorem d_Fs_listMiddles_26 : decode c0_Fs_listMiddles 26 = .ok (.getfield 48, 3) := by decide +kernel
theorem d_Fs_listMiddles_29 : decode c0_Fs_listMiddles 29 = .ok (.if_icmp .ge 31, 3) := by decide +kernel
theorem d_Fs_listMiddles_32 : decode c0_Fs_listMiddles 32 = .ok (.iload_n 1, 1) := by decide +kernel
theorem d_Fs_listMiddles_33 : decode c0_Fs_listMiddles 33 = .ok (.iload_n 2, 1) := by decide +kernel
theorem d_Fs_listMiddles_34 : decode c0_Fs_listMiddles 34 = .ok (.if_icmp .eq 20, 3) := by decide +kernel
theorem d_Fs_listMiddles_37 : decode c0_Fs_listMiddles 37 = .ok (.iload_n 1, 1) := by decide +kernel
theorem d_Fs_listMiddles_38 : decode c0_Fs_listMiddles 38 = .ok (.iload_n 3, 1) := by decide +kernel
theorem d_Fs_listMiddles_39 : decode c0_Fs_listMiddles 39 = .ok (.if_icmp .eq 15, 3) := by decide +kernel
theorem d_Fs_listMiddles_42 : decode c0_Fs_listMiddles 42 = .ok (.aload_n 0, 1) := by decide +kernel
theorem d_Fs_listMiddles_43 : decode c0_Fs_listMiddles 43 = .ok (.bipush 6, 2) := by decide +kernel
theorem d_Fs_listMiddles_45 : decode c0_Fs_listMiddles 45 = .ok (.iload_n 1, 1) := by decide +kernel
theorem d_Fs_listMiddles_46 : decode c0_Fs_listMiddles 46 = .ok (.iload_n 2, 1) := by decide +kernel
theorem d_Fs_listMiddles_47 : decode c0_Fs_listMiddles 47 = .ok (.iload_n 3, 1) := by decide +kernel
theorem d_Fs_listMiddles_48 : decode c0_Fs_listMiddles 48 = .ok (.invokestatic 98, 3) := by decide +kernel
theorem d_Fs_listMiddles_51 : decode c0_Fs_listMiddles 51 = .ok (.invokevirtual 130, 3) := by decide +kernel
theorem d_Fs_listMiddles_54 : decode c0_Fs_listMiddles 54 = .ok (.iinc 3 1, 3) := by decide +kernel
theorem d_Fs_listMiddles_57 : decode c0_Fs_listMiddles 57 = .ok (.goto (-33), 3) := by decide +kernel
theorem d_Fs_listMiddles_60 : decode c0_Fs_listMiddles 60 = .ok (.iinc 2 1, 3) := by decide +kernel
theorem d_Fs_listMiddles_63 : decode c0_Fs_listMiddles 63 = .ok (.goto (-51), 3) := by decide +kernel
theorem d_Fs_listMiddles_66 : decode c0_Fs_listMiddles 66 = .ok (.iinc 1 1, 3) := by decide +kernel
theorem d_Fs_listMiddles_69 : decode c0_Fs_listMiddles 69 = .ok (.goto (-67), 3) := by decide +kernel
theorem d_Fs_listMiddles_72 : decode c0_Fs_listMiddles 72 = .ok (.return_, 1) := by decide +kernel
def b_Fs_listMiddles_54 (K : Nat → ClassId) (N : Nat) (k2 : Int32 → fh_H → Option (fh_H)) (k12 : Int32 → Int32 → fh_H → Option (fh_H)) (k24 : Int32 → Int32 → Int32 → fh_H → Option (fh_H)) (o : Nat) (v1 : Int32) (v2 : Int32) (v3 : Int32) (h : fh_H) : Option (fh_H) :=
  (some (v3 + 1)).bind fun x1 => k24 v1 v2 x1 h
def b_Fs_listMiddles_24 (K : Nat → ClassId) (N : Nat) (k2 : Int32 → fh_H → Option (fh_H)) (k12 : Int32 → Int32 → fh_H → Option (fh_H)) (k24 : Int32 → Int32 → Int32 → fh_H → Option (fh_H)) (o : Nat) (v1 : Int32) (v2 : Int32) (v3 : Int32) (h : fh_H) : Option (fh_H) :=
  (fg_i h (some o) 2 7).bind fun x1 => if x1 ≤ v3 then ((some (v2 + 1)).bind fun x2 => k12 v1 x2 h) else (if v1 = v2 then (b_Fs_listMiddles_54 K N k2 k12 k24 o v1 v2 v3 h) else (if v1 = v3 then (b_Fs_listMiddles_54 K N k2 k12 k24 o v1 v2 v3 h) else ((f_FF_pack K N v1 v2 v3 h).bind fun r3 => (fg_o r3.2 (some o) 2).bind fun o4 => (f_Fs_consider K N o4 6 r3.1 r3.2).bind fun r5 => b_Fs_listMiddles_54 K N k2 k12 k24 o v1 v2 v3 r5)))
def l_Fs_listMiddles_24 (K : Nat → ClassId) (N : Nat) (k2 : Int32 → fh_H → Option (fh_H)) (k12 : Int32 → Int32 → fh_H → Option (fh_H)) (o : Nat) : Nat → Int32 → Int32 → Int32 → fh_H → Option (fh_H)
  | 0, _, _, _, _ => none
  | n + 1, v1, v2, v3, h => b_Fs_listMiddles_24 K N k2 k12 (l_Fs_listMiddles_24 K N k2 k12 o n) o v1 v2 v3 h
def b_Fs_listMiddles_12 (K : Nat → ClassId) (N : Nat) (k2 : Int32 → fh_H → Option (fh_H)) (k12 : Int32 → Int32 → fh_H → Option (fh_H)) (o : Nat) (v1 : Int32) (v2 : Int32) (h : fh_H) : Option (fh_H) :=
  (fg_i h (some o) 2 7).bind fun x1 => if x1 ≤ v2 then ((some (v1 + 1)).bind fun x2 => k2 x2 h) else ((some (v2 + 1)).bind fun x3 => l_Fs_listMiddles_24 K N k2 k12 o N v1 v2 x3 h)
def l_Fs_listMiddles_12 (K : Nat → ClassId) (N : Nat) (k2 : Int32 → fh_H → Option (fh_H)) (o : Nat) : Nat → Int32 → Int32 → fh_H → Option (fh_H)
  | 0, _, _, _ => none
  | n + 1, v1, v2, h => b_Fs_listMiddles_12 K N k2 (l_Fs_listMiddles_12 K N k2 o n) o v1 v2 h
def b_Fs_listMiddles_2 (K : Nat → ClassId) (N : Nat) (k2 : Int32 → fh_H → Option (fh_H)) (o : Nat) (v1 : Int32) (h : fh_H) : Option (fh_H) :=
  (fg_i h (some o) 2 7).bind fun x1 => if x1 ≤ v1 then (some h) else (l_Fs_listMiddles_12 K N k2 o N v1 0 h)
def l_Fs_listMiddles_2 (K : Nat → ClassId) (N : Nat) (o : Nat) : Nat → Int32 → fh_H → Option (fh_H)
  | 0, _, _ => none
  | n + 1, v1, h => b_Fs_listMiddles_2 K N (l_Fs_listMiddles_2 K N o n) o v1 h
def f_Fs_listMiddles (K : Nat → ClassId) (N : Nat) (o : Nat)  (h0 : fh_H) : Option (fh_H) :=
  l_Fs_listMiddles_2 K N o N 0 h0
set_option maxHeartbeats 4000000 in
set_option maxRecDepth 100000 in
theorem c_Fs_listMiddles {l : Launch} {D : va_G} {K : Nat → ClassId} {t : Nat → Nat} {N : Nat} {o : Nat}  {h0 : fh_H} {res : fh_H} (hf : f_Fs_listMiddles K N o  h0 = some res) : fC l D K t y_Fs_listMiddles c0_Fs_listMiddles 4 none rm_Fs_listMiddles [.ref o] h0 (none) res := by
  refine fh_body (by decide) (Nat.le_of_ble_eq_true rfl) ?_
  intro p e s m below meth c A ls S hr hk hnm hE hAe hI hl
  obtain ⟨hx, hb, hml, hown, hts⟩ := id S
  have hl : lv_has ls 4 [(0, va_rf (some o))] := hl
  have L2 : ∀ (n2 : Nat) (v1 : Int32) (h : fh_H) (H : Heap) (locs : List Loc) (ls : Array Slot), lv_has ls 4 [(0, va_rf (some o)), (1, .int v1)] → fh_I D classes A s.heap h H locs → l_Fs_listMiddles_2 K N o n2 v1 h = some res → W p l e rm_Fs_listMiddles s m [.ref o].toArray below meth c H locs 0 0 (MQ below (fh_Q D classes h0 s.heap.size (none) res) [.ref o].toArray s 0 0 A) (F0 m 2 ls []) := by
    intro n2
    induction n2 with
    | zero =>
      intro v1 h H locs ls hl hI hf
      exact fh_no hf
    | succ n2 ih2 =>
      have L12 : ∀ (n12 : Nat) (v1 : Int32) (v2 : Int32) (h : fh_H) (H : Heap) (locs : List Loc) (ls : Array Slot), lv_has ls 4 [(0, va_rf (some o)), (1, .int v1), (2, .int v2)] → fh_I D classes A s.heap h H locs → l_Fs_listMiddles_12 K N (l_Fs_listMiddles_2 K N o n2) o n12 v1 v2 h = some res → W p l e rm_Fs_listMiddles s m [.ref o].toArray below meth c H locs 0 0 (MQ below (fh_Q D classes h0 s.heap.size (none) res) [.ref o].toArray s 0 0 A) (F0 m 12 ls []) := by
        intro n12
        induction n12 with
        | zero =>
          intro v1 v2 h H locs ls hl hI hf
          exact fh_no hf
        | succ n12 ih12 =>
          have L24 : ∀ (n24 : Nat) (v1 : Int32) (v2 : Int32) (v3 : Int32) (h : fh_H) (H : Heap) (locs : List Loc) (ls : Array Slot), lv_has ls 4 [(0, va_rf (some o)), (1, .int v1), (2, .int v2), (3, .int v3)] → fh_I D classes A s.heap h H locs → l_Fs_listMiddles_24 K N (l_Fs_listMiddles_2 K N o n2) (l_Fs_listMiddles_12 K N (l_Fs_listMiddles_2 K N o n2) o n12) o n24 v1 v2 v3 h = some res → W p l e rm_Fs_listMiddles s m [.ref o].toArray below meth c H locs 0 0 (MQ below (fh_Q D classes h0 s.heap.size (none) res) [.ref o].toArray s 0 0 A) (F0 m 24 ls []) := by
            intro n24
            induction n24 with
            | zero =>
              intro v1 v2 v3 h H locs ls hl hI hf
              exact fh_no hf
            | succ n24 ih24 =>
              have B54 : ∀ (v1 : Int32) (v2 : Int32) (v3 : Int32) (h : fh_H) (H : Heap) (locs : List Loc) (ls : Array Slot), lv_has ls 4 [(0, va_rf (some o)), (1, .int v1), (2, .int v2), (3, .int v3)] → fh_I D classes A s.heap h H locs → b_Fs_listMiddles_54 K N (l_Fs_listMiddles_2 K N o n2) (l_Fs_listMiddles_12 K N (l_Fs_listMiddles_2 K N o n2) o n12) (l_Fs_listMiddles_24 K N (l_Fs_listMiddles_2 K N o n2) (l_Fs_listMiddles_12 K N (l_Fs_listMiddles_2 K N o n2) o n12) o n24) o v1 v2 v3 h = some res → W p l e rm_Fs_listMiddles s m [.ref o].toArray below meth c H locs 0 0 (MQ below (fh_Q D classes h0 s.heap.size (none) res) [.ref o].toArray s 0 0 A) (F0 m 54 ls []) := by
                intro v1 v2 v3 h H locs ls hl hI hf
                unfold b_Fs_listMiddles_54 at hf
                obtain ⟨x1, e_x1, hf⟩ := fh_b hf
                refine lv_iinc (v := x1) (lv' := [(3, .int x1), (0, va_rf (some o)), (1, .int v1), (2, .int v2)]) hx hb d_Fs_listMiddles_54 hl (k := 3) rfl (by rw [fh_qe e_x1]; rfl) (by decide) rfl (fun ls hl => ?_)
                refine lv_goto (tgt := 24) hx hb d_Fs_listMiddles_57 (by decide) ?_
                exact ih24 v1 v2 x1 h _ _ _ (lv_sub hl [1, 2, 3, 0] rfl) hI hf
              intro v1 v2 v3 h H locs ls hl hI hf
              have hf : b_Fs_listMiddles_24 K N (l_Fs_listMiddles_2 K N o n2) (l_Fs_listMiddles_12 K N (l_Fs_listMiddles_2 K N o n2) o n12) (l_Fs_listMiddles_24 K N (l_Fs_listMiddles_2 K N o n2) (l_Fs_listMiddles_12 K N (l_Fs_listMiddles_2 K N o n2) o n12) o n24) o v1 v2 v3 h = some res := hf
              unfold b_Fs_listMiddles_24 at hf
              refine lv_iload_n hx hb d_Fs_listMiddles_24 rfl (lv_at hl 3 rfl) ?_
              refine fh_aload_n S d_Fs_listMiddles_25 rfl (lv_at hl 0 rfl) ?_
              obtain ⟨x1, e_x1, hf⟩ := fh_b hf
              refine fh_geti S hE.1 hI e_x1 (hc := rfl) (hin := in_2) (by decide) (hts _ k_38) d_Fs_listMiddles_26 ?_
              refine lv_icmp_ge (tgt := 60) hx hb d_Fs_listMiddles_29 (by decide) (fun c_29 => ?_) (fun c_29 => ?_)
              · replace hf := fh_t c_29 hf
                obtain ⟨x2, e_x2, hf⟩ := fh_b hf
                refine lv_iinc (v := x2) (lv' := [(2, .int x2), (0, va_rf (some o)), (1, .int v1), (3, .int v3)]) hx hb d_Fs_listMiddles_60 hl (k := 2) rfl (by rw [fh_qe e_x2]; rfl) (by decide) rfl (fun ls hl => ?_)
                refine lv_goto (tgt := 12) hx hb d_Fs_listMiddles_63 (by decide) ?_
                exact ih12 v1 x2 h _ _ _ (lv_sub hl [1, 2, 0] rfl) hI hf
              · replace hf := fh_f c_29 hf
                refine lv_iload_n hx hb d_Fs_listMiddles_32 rfl (lv_at hl 1 rfl) ?_
                refine lv_iload_n hx hb d_Fs_listMiddles_33 rfl (lv_at hl 2 rfl) ?_
                refine lv_icmp_eq (tgt := 54) hx hb d_Fs_listMiddles_34 (by decide) (fun c_34 => ?_) (fun c_34 => ?_)
                · replace hf := fh_t c_34 hf
                  exact B54 v1 v2 v3 h _ _ _ (lv_sub hl [0, 1, 2, 3] rfl) hI hf
                · replace hf := fh_f c_34 hf
                  refine lv_iload_n hx hb d_Fs_listMiddles_37 rfl (lv_at hl 1 rfl) ?_
                  refine lv_iload_n hx hb d_Fs_listMiddles_38 rfl (lv_at hl 3 rfl) ?_
                  refine lv_icmp_eq (tgt := 54) hx hb d_Fs_listMiddles_39 (by decide) (fun c_39 => ?_) (fun c_39 => ?_)
                  · replace hf := fh_t c_39 hf
                    exact B54 v1 v2 v3 h _ _ _ (lv_sub hl [0, 1, 2, 3] rfl) hI hf
                  · replace hf := fh_f c_39 hf
                    refine fh_aload_n S d_Fs_listMiddles_42 rfl (lv_at hl 0 rfl) ?_
                    refine lv_bipush (v := 6) hx hb d_Fs_listMiddles_43 (by decide) ?_
                    refine lv_iload_n hx hb d_Fs_listMiddles_45 rfl (lv_at hl 1 rfl) ?_
                    refine lv_iload_n hx hb d_Fs_listMiddles_46 rfl (lv_at hl 2 rfl) ?_
                    refine lv_iload_n hx hb d_Fs_listMiddles_47 rfl (lv_at hl 3 rfl) ?_
                    obtain ⟨r3, e_r3, hf⟩ := fh_b hf
                    refine fh_callSN (As := [.int v1, .int v2, .int v3]) (rest := [.int 6, va_rf (some o)]) S fT_good hE hI (c_FF_pack e_r3) fy_FF_pack fst_FF_pack kn_3 ⟨rfl, rfl⟩ ⟨Nat.le_of_ble_eq_true rfl, Nat.le_of_ble_eq_true rfl⟩ ⟨Nat.zero_le _, Nat.zero_le _⟩ rfl hl.1 rfl (Nat.le_of_ble_eq_true rfl) d_Fs_listMiddles_48 (fun H locs hI => ?_)
                    obtain ⟨o4, e_o4, hf⟩ := fh_b hf
                    obtain ⟨r5, e_r5, hf⟩ := fh_b hf
                    refine fh_callV (As := [.int 6, .int r3.1]) (rest := []) S fT_good hE hI e_o4 rfl (c_Fs_consider e_r5) fy_Fs_consider fst_Fs_consider k_104 ⟨rfl, rfl⟩ ⟨Nat.le_of_ble_eq_true rfl, Nat.le_of_ble_eq_true rfl⟩ ⟨Nat.zero_le _, Nat.zero_le _⟩ rfl hl.1 rfl (Nat.le_of_ble_eq_true rfl) d_Fs_listMiddles_51 (fun H locs hI => ?_)
                    exact B54 v1 v2 v3 r5 _ _ _ (lv_sub hl [0, 1, 2, 3] rfl) hI hf
          intro v1 v2 h H locs ls hl hI hf
          have hf : b_Fs_listMiddles_12 K N (l_Fs_listMiddles_2 K N o n2) (l_Fs_listMiddles_12 K N (l_Fs_listMiddles_2 K N o n2) o n12) o v1 v2 h = some res := hf
          unfold b_Fs_listMiddles_12 at hf
          refine lv_iload_n hx hb d_Fs_listMiddles_12 rfl (lv_at hl 2 rfl) ?_
          refine fh_aload_n S d_Fs_listMiddles_13 rfl (lv_at hl 0 rfl) ?_
          obtain ⟨x1, e_x1, hf⟩ := fh_b hf
          refine fh_geti S hE.1 hI e_x1 (hc := rfl) (hin := in_2) (by decide) (hts _ k_38) d_Fs_listMiddles_14 ?_
          refine lv_icmp_ge (tgt := 66) hx hb d_Fs_listMiddles_17 (by decide) (fun c_17 => ?_) (fun c_17 => ?_)
          · replace hf := fh_t c_17 hf
            obtain ⟨x2, e_x2, hf⟩ := fh_b hf
            refine lv_iinc (v := x2) (lv' := [(1, .int x2), (0, va_rf (some o)), (2, .int v2)]) hx hb d_Fs_listMiddles_66 hl (k := 1) rfl (by rw [fh_qe e_x2]; rfl) (by decide) rfl (fun ls hl => ?_)
            refine lv_goto (tgt := 2) hx hb d_Fs_listMiddles_69 (by decide) ?_
            exact ih2 x2 h _ _ _ (lv_sub hl [1, 0] rfl) hI hf
          · replace hf := fh_f c_17 hf
            refine lv_iload_n hx hb d_Fs_listMiddles_20 rfl (lv_at hl 2 rfl) ?_
            refine lv_iconst (v := 1) hx hb d_Fs_listMiddles_21 (by decide) ?_
            refine lv_iadd hx hb d_Fs_listMiddles_22 ?_
            obtain ⟨x3, e_x3, hf⟩ := fh_b hf
            refine fh_topi e_x3 ?_
            refine lv_istore_n (lv' := [(3, .int x3), (0, va_rf (some o)), (1, .int v1), (2, .int v2)]) hx hb d_Fs_listMiddles_23 rfl hl (by decide) rfl (fun ls hl => ?_)
            exact L24 N v1 v2 x3 h _ _ _ (lv_sub hl [1, 2, 3, 0] rfl) hI hf
      intro v1 h H locs ls hl hI hf
      have hf : b_Fs_listMiddles_2 K N (l_Fs_listMiddles_2 K N o n2) o v1 h = some res := hf
      unfold b_Fs_listMiddles_2 at hf
      refine lv_iload_n hx hb d_Fs_listMiddles_2 rfl (lv_at hl 1 rfl) ?_
      refine fh_aload_n S d_Fs_listMiddles_3 rfl (lv_at hl 0 rfl) ?_
      obtain ⟨x1, e_x1, hf⟩ := fh_b hf
      refine fh_geti S hE.1 hI e_x1 (hc := rfl) (hin := in_2) (by decide) (hts _ k_38) d_Fs_listMiddles_4 ?_
      refine lv_icmp_ge (tgt := 72) hx hb d_Fs_listMiddles_7 (by decide) (fun c_7 => ?_) (fun c_7 => ?_)
      · replace hf := fh_t c_7 hf
        obtain rfl := Option.some.inj hf
        exact fh_vret S hr hk hAe hI d_Fs_listMiddles_72
      · replace hf := fh_f c_7 hf
        refine lv_iconst (v := 0) hx hb d_Fs_listMiddles_10 (by decide) ?_
        refine lv_istore_n (lv' := [(2, .int 0), (0, va_rf (some o)), (1, .int v1)]) hx hb d_Fs_listMiddles_11 rfl hl (by decide) rfl (fun ls hl => ?_)
        exact L12 N v1 0 h _ _ _ (lv_sub hl [1, 2, 0] rfl) hI hf
  unfold f_Fs_listMiddles at hf
  refine lv_iconst (v := 0) hx hb d_Fs_listMiddles_0 (by decide) ?_
  refine lv_istore_n (lv' := [(1, .int 0), (0, va_rf (some o))]) hx hb d_Fs_listMiddles_1 rfl hl (by decide) rfl (fun ls hl => ?_)
  exact L2 N 0 h0 _ _ _ (lv_sub hl [1, 0] rfl) hI hf
theorem d_Dr_firstStanding_0 : decode c0_Dr_firstStanding 0 = .ok (.iconst 0, 1) := by decide +kernel
theorem d_Dr_firstStanding_1 : decode c0_Dr_firstStanding 1 = .ok (.istore_n 1, 1) := by decide +kernel
theorem d_Dr_firstStanding_2 : decode c0_Dr_firstStanding 2 = .ok (.iload_n 1, 1) := by decide +kernel
theorem d_Dr_firstStanding_3 : decode c0_Dr_firstStanding 3 = .ok (.aload_n 0, 1) := by decide +kernel
theorem d_Dr_firstStanding_4 : decode c0_Dr_firstStanding 4 = .ok (.getfield 25, 3) := by decide +kernel
theorem d_Dr_firstStanding_7 : decode c0_Dr_firstStanding 7 = .ok (.if_icmp .ge 29, 3) := by decide +kernel
theorem d_Dr_firstStanding_10 : decode c0_Dr_firstStanding 10 = .ok (.aload_n 0, 1) := by decide +kernel
theorem d_Dr_firstStanding_11 : decode c0_Dr_firstStanding 11 = .ok (.getfield 11, 3) := by decide +kernel
theorem d_Dr_firstStanding_14 : decode c0_Dr_firstStanding 14 = .ok (.iload_n 1, 1) := by decide +kernel
theorem d_Dr_firstStanding_15 : decode c0_Dr_firstStanding 15 = .ok (.aaload, 1) := by decide +kernel
theorem d_Dr_firstStanding_16 : decode c0_Dr_firstStanding 16 = .ok (.getfield 40, 3) := by decide +kernel
theorem d_Dr_firstStanding_19 : decode c0_Dr_firstStanding 19 = .ok (.iconst (-1), 1) := by decide +kernel
theorem d_Dr_firstStanding_20 : decode c0_Dr_firstStanding 20 = .ok (.if_icmp .ne 10, 3) := by decide +kernel
theorem d_Dr_firstStanding_23 : decode c0_Dr_firstStanding 23 = .ok (.aload_n 0, 1) := by decide +kernel
theorem d_Dr_firstStanding_24 : decode c0_Dr_firstStanding 24 = .ok (.getfield 11, 3) := by decide +kernel
theorem d_Dr_firstStanding_27 : decode c0_Dr_firstStanding 27 = .ok (.iload_n 1, 1) := by decide +kernel
theorem d_Dr_firstStanding_28 : decode c0_Dr_firstStanding 28 = .ok (.aaload, 1) := by decide +kernel
theorem d_Dr_firstStanding_29 : decode c0_Dr_firstStanding 29 = .ok (.areturn, 1) := by decide +kernel
theorem d_Dr_firstStanding_30 : decode c0_Dr_firstStanding 30 = .ok (.iinc 1 1, 3) := by decide +kernel
theorem d_Dr_firstStanding_33 : decode c0_Dr_firstStanding 33 = .ok (.goto (-31), 3) := by decide +kernel
theorem d_Dr_firstStanding_36 : decode c0_Dr_firstStanding 36 = .ok (.aconst_null, 1) := by decide +kernel
theorem d_Dr_firstStanding_37 : decode c0_Dr_firstStanding 37 = .ok (.areturn, 1) := by decide +kernel
def b_Dr_firstStanding_2 (K : Nat → ClassId) (N : Nat) (k2 : Int32 → fh_H → Option (Option Nat × fh_H)) (o : Nat) (v1 : Int32) (h : fh_H) : Option (Option Nat × fh_H) :=
  (fg_i h (some o) 3 2).bind fun x1 => if x1 ≤ v1 then (some (none, h)) else ((fg_a h (some o) 3 0).bind fun x2 => (fa_a (K 3) h x2 v1).bind fun x3 => (fg_i h x3 4 3).bind fun x4 => if x4 = (-1) then ((fg_a h (some o) 3 0).bind fun x6 => (fa_a (K 3) h x6 v1).bind fun x7 => some (x7, h)) else ((some (v1 + 1)).bind fun x5 => k2 x5 h))
def l_Dr_firstStanding_2 (K : Nat → ClassId) (N : Nat) (o : Nat) : Nat → Int32 → fh_H → Option (Option Nat × fh_H)
  | 0, _, _ => none
  | n + 1, v1, h => b_Dr_firstStanding_2 K N (l_Dr_firstStanding_2 K N o n) o v1 h
def f_Dr_firstStanding (K : Nat → ClassId) (N : Nat) (o : Nat)  (h0 : fh_H) : Option (Option Nat × fh_H) :=
  l_Dr_firstStanding_2 K N o N 0 h0
set_option maxHeartbeats 4000000 in
set_option maxRecDepth 100000 in
theorem c_Dr_firstStanding {l : Launch} {D : va_G} {K : Nat → ClassId} {t : Nat → Nat} {N : Nat} {o : Nat}  {h0 : fh_H} {res : Option Nat × fh_H} (hf : f_Dr_firstStanding K N o  h0 = some res) : fC l D K t y_Dr_firstStanding c0_Dr_firstStanding 2 (some (.object "FactFinder$Figure")) rm_Dr_firstStanding [.ref o] h0 (some (va_rf res.1)) res.2 := by
  refine fh_body (by decide) (Nat.le_of_ble_eq_true rfl) ?_
  intro p e s m below meth c A ls S hr hk hnm hE hAe hI hl
  obtain ⟨hx, hb, hml, hown, hts⟩ := id S
  have hl : lv_has ls 2 [(0, va_rf (some o))] := hl
  have L2 : ∀ (n2 : Nat) (v1 : Int32) (h : fh_H) (H : Heap) (locs : List Loc) (ls : Array Slot), lv_has ls 2 [(0, va_rf (some o)), (1, .int v1)] → fh_I D classes A s.heap h H locs → l_Dr_firstStanding_2 K N o n2 v1 h = some res → W p l e rm_Dr_firstStanding s m [.ref o].toArray below meth c H locs 0 0 (MQ below (fh_Q D classes h0 s.heap.size (some (va_rf res.1)) res.2) [.ref o].toArray s 0 0 A) (F0 m 2 ls []) := by
    intro n2
    induction n2 with
    | zero =>
      intro v1 h H locs ls hl hI hf
      exact fh_no hf
    | succ n2 ih2 =>
      intro v1 h H locs ls hl hI hf
      have hf : b_Dr_firstStanding_2 K N (l_Dr_firstStanding_2 K N o n2) o v1 h = some res := hf
      unfold b_Dr_firstStanding_2 at hf
      refine lv_iload_n hx hb d_Dr_firstStanding_2 rfl (lv_at hl 1 rfl) ?_
      refine fh_aload_n S d_Dr_firstStanding_3 rfl (lv_at hl 0 rfl) ?_
      obtain ⟨x1, e_x1, hf⟩ := fh_b hf
      refine fh_geti S hE.1 hI e_x1 (hc := rfl) (hin := in_3) (by decide) (hts _ k_3) d_Dr_firstStanding_4 ?_
      refine lv_icmp_ge (tgt := 36) hx hb d_Dr_firstStanding_7 (by decide) (fun c_7 => ?_) (fun c_7 => ?_)
      · replace hf := fh_t c_7 hf
        refine lv_null hx hb d_Dr_firstStanding_36 ?_
        obtain rfl := Option.some.inj hf
        exact fh_aret S hr (Or.inl ⟨_, rfl⟩) hk hAe hI d_Dr_firstStanding_37
      · replace hf := fh_f c_7 hf
        refine fh_aload_n S d_Dr_firstStanding_10 rfl (lv_at hl 0 rfl) ?_
        obtain ⟨x2, e_x2, hf⟩ := fh_b hf
        refine fh_geta S hE.1 hI e_x2 (hc := rfl) (hin := in_3) (by decide) (hts _ k_4) d_Dr_firstStanding_11 ?_
        refine lv_iload_n hx hb d_Dr_firstStanding_14 rfl (lv_at hl 1 rfl) ?_
        obtain ⟨x3, e_x3, hf⟩ := fh_b hf
        refine fh_aald S hE.1 hI 3 rfl e_x3 d_Dr_firstStanding_15 ?_
        obtain ⟨x4, e_x4, hf⟩ := fh_b hf
        refine fh_geti S hE.1 hI e_x4 (hc := rfl) (hin := in_4) (by decide) (hts _ k_36) d_Dr_firstStanding_16 ?_
        refine lv_iconst (v := (-1)) hx hb d_Dr_firstStanding_19 (by decide) ?_
        refine lv_icmp_ne (tgt := 30) hx hb d_Dr_firstStanding_20 (by decide) (fun c_20 => ?_) (fun c_20 => ?_)
        · replace hf := fh_f c_20 hf
          obtain ⟨x5, e_x5, hf⟩ := fh_b hf
          refine lv_iinc (v := x5) (lv' := [(1, .int x5), (0, va_rf (some o))]) hx hb d_Dr_firstStanding_30 hl (k := 1) rfl (by rw [fh_qe e_x5]; rfl) (by decide) rfl (fun ls hl => ?_)
          refine lv_goto (tgt := 2) hx hb d_Dr_firstStanding_33 (by decide) ?_
          exact ih2 x5 h _ _ _ (lv_sub hl [1, 0] rfl) hI hf
        · replace hf := fh_t c_20 hf
          refine fh_aload_n S d_Dr_firstStanding_23 rfl (lv_at hl 0 rfl) ?_
          obtain ⟨x6, e_x6, hf⟩ := fh_b hf
          refine fh_geta S hE.1 hI e_x6 (hc := rfl) (hin := in_3) (by decide) (hts _ k_4) d_Dr_firstStanding_24 ?_
          refine lv_iload_n hx hb d_Dr_firstStanding_27 rfl (lv_at hl 1 rfl) ?_
          obtain ⟨x7, e_x7, hf⟩ := fh_b hf
          refine fh_aald S hE.1 hI 3 rfl e_x7 d_Dr_firstStanding_28 ?_
          obtain rfl := Option.some.inj hf
          exact fh_aret S hr (Or.inl ⟨_, rfl⟩) hk hAe hI d_Dr_firstStanding_29
  unfold f_Dr_firstStanding at hf
  refine lv_iconst (v := 0) hx hb d_Dr_firstStanding_0 (by decide) ?_
  refine lv_istore_n (lv' := [(1, .int 0), (0, va_rf (some o))]) hx hb d_Dr_firstStanding_1 rfl hl (by decide) rfl (fun ls hl => ?_)
  exact L2 N 0 h0 _ _ _ (lv_sub hl [1, 0] rfl) hI hf
theorem d_Fs_findTriples_0 : decode c0_Fs_findTriples 0 = .ok (.aload_n 0, 1) := by decide +kernel
theorem d_Fs_findTriples_1 : decode c0_Fs_findTriples 1 = .ok (.getfield 38, 3) := by decide +kernel
theorem d_Fs_findTriples_4 : decode c0_Fs_findTriples 4 = .ok (.iconst 0, 1) := by decide +kernel
theorem d_Fs_findTriples_5 : decode c0_Fs_findTriples 5 = .ok (.putfield 66, 3) := by decide +kernel
theorem d_Fs_findTriples_8 : decode c0_Fs_findTriples 8 = .ok (.iconst 0, 1) := by decide +kernel
theorem d_Fs_findTriples_9 : decode c0_Fs_findTriples 9 = .ok (.istore_n 2, 1) := by decide +kernel
theorem d_Fs_findTriples_10 : decode c0_Fs_findTriples 10 = .ok (.iload_n 2, 1) := by decide +kernel
theorem d_Fs_findTriples_11 : decode c0_Fs_findTriples 11 = .ok (.aload_n 0, 1) := by decide +kernel
theorem d_Fs_findTriples_12 : decode c0_Fs_findTriples 12 = .ok (.getfield 48, 3) := by decide +kernel
theorem d_Fs_findTriples_15 : decode c0_Fs_findTriples 15 = .ok (.if_icmp .ge 111, 3) := by decide +kernel
theorem d_Fs_findTriples_18 : decode c0_Fs_findTriples 18 = .ok (.iload_n 2, 1) := by decide +kernel
theorem d_Fs_findTriples_19 : decode c0_Fs_findTriples 19 = .ok (.iconst 1, 1) := by decide +kernel
theorem d_Fs_findTriples_20 : decode c0_Fs_findTriples 20 = .ok (.iadd, 1) := by decide +kernel
theorem d_Fs_findTriples_21 : decode c0_Fs_findTriples 21 = .ok (.istore_n 3, 1) := by decide +kernel
theorem d_Fs_findTriples_22 : decode c0_Fs_findTriples 22 = .ok (.iload_n 3, 1) := by decide +kernel
theorem d_Fs_findTriples_23 : decode c0_Fs_findTriples 23 = .ok (.aload_n 0, 1) := by decide +kernel
theorem d_Fs_findTriples_24 : decode c0_Fs_findTriples 24 = .ok (.getfield 48, 3) := by decide +kernel
theorem d_Fs_findTriples_27 : decode c0_Fs_findTriples 27 = .ok (.if_icmp .ge 93, 3) := by decide +kernel
theorem d_Fs_findTriples_30 : decode c0_Fs_findTriples 30 = .ok (.iload_n 3, 1) := by decide +kernel
theorem d_Fs_findTriples_31 : decode c0_Fs_findTriples 31 = .ok (.iconst 1, 1) := by decide +kernel
theorem d_Fs_findTriples_32 : decode c0_Fs_findTriples 32 = .ok (.iadd, 1) := by decide +kernel
theorem d_Fs_findTriples_33 : decode c0_Fs_findTriples 33 = .ok (.istore 4, 2) := by decide +kernel
theorem d_Fs_findTriples_35 : decode c0_Fs_findTriples 35 = .ok (.iload 4, 2) := by decide +kernel
theorem d_Fs_findTriples_37 : decode c0_Fs_findTriples 37 = .ok (.aload_n 0, 1) := by decide +kernel
theorem d_Fs_findTriples_38 : decode c0_Fs_findTriples 38 = .ok (.getfield 48, 3) := by decide +kernel
theorem d_Fs_findTriples_41 : decode c0_Fs_findTriples 41 = .ok (.if_icmp .ge 73, 3) := by decide +kernel
theorem d_Fs_findTriples_44 : decode c0_Fs_findTriples 44 = .ok (.aload_n 0, 1) := by decide +kernel
theorem d_Fs_findTriples_45 : decode c0_Fs_findTriples 45 = .ok (.getfield 38, 3) := by decide +kernel
theorem d_Fs_findTriples_48 : decode c0_Fs_findTriples 48 = .ok (.getfield 66, 3) := by decide +kernel
theorem d_Fs_findTriples_51 : decode c0_Fs_findTriples 51 = .ok (.bipush 120, 2) := by decide +kernel
theorem d_Fs_findTriples_53 : decode c0_Fs_findTriples 53 = .ok (.if_icmp .ge 55, 3) := by decide +kernel
theorem d_Fs_findTriples_56 : decode c0_Fs_findTriples 56 = .ok (.aload_n 0, 1) := by decide +kernel
theorem d_Fs_findTriples_57 : decode c0_Fs_findTriples 57 = .ok (.getfield 12, 3) := by decide +kernel
theorem d_Fs_findTriples_60 : decode c0_Fs_findTriples 60 = .ok (.iconst 1, 1) := by decide +kernel
theorem d_Fs_findTriples_61 : decode c0_Fs_findTriples 61 = .ok (.iload_n 2, 1) := by decide +kernel
theorem d_Fs_findTriples_62 : decode c0_Fs_findTriples 62 = .ok (.iload_n 3, 1) := by decide +kernel
theorem d_Fs_findTriples_63 : decode c0_Fs_findTriples 63 = .ok (.iload 4, 2) := by decide +kernel
theorem d_Fs_findTriples_65 : decode c0_Fs_findTriples 65 = .ok (.invokestatic 98, 3) := by decide +kernel
theorem d_Fs_findTriples_68 : decode c0_Fs_findTriples 68 = .ok (.invokevirtual 102, 3) := by decide +kernel
theorem d_Fs_findTriples_71 : decode c0_Fs_findTriples 71 = .ok (.ifCond .ne 37, 3) := by decide +kernel
theorem d_Fs_findTriples_74 : decode c0_Fs_findTriples 74 = .ok (.aload_n 0, 1) := by decide +kernel
theorem d_Fs_findTriples_75 : decode c0_Fs_findTriples 75 = .ok (.getfield 41, 3) := by decide +kernel
theorem d_Fs_findTriples_78 : decode c0_Fs_findTriples 78 = .ok (.aload_n 0, 1) := by decide +kernel
theorem d_Fs_findTriples_79 : decode c0_Fs_findTriples 79 = .ok (.getfield 38, 3) := by decide +kernel
theorem d_Fs_findTriples_82 : decode c0_Fs_findTriples 82 = .ok (.getfield 66, 3) := by decide +kernel
theorem d_Fs_findTriples_85 : decode c0_Fs_findTriples 85 = .ok (.aload_n 1, 1) := by decide +kernel
theorem d_Fs_findTriples_86 : decode c0_Fs_findTriples 86 = .ok (.iload_n 2, 1) := by decide +kernel
theorem d_Fs_findTriples_87 : decode c0_Fs_findTriples 87 = .ok (.iload_n 3, 1) := by decide +kernel
theorem d_Fs_findTriples_88 : decode c0_Fs_findTriples 88 = .ok (.iload 4, 2) := by decide +kernel
theorem d_Fs_findTriples_90 : decode c0_Fs_findTriples 90 = .ok (.invokevirtual 151, 3) := by decide +kernel
theorem d_Fs_findTriples_93 : decode c0_Fs_findTriples 93 = .ok (.lastore, 1) := by decide +kernel
theorem d_Fs_findTriples_94 : decode c0_Fs_findTriples 94 = .ok (.aload_n 0, 1) := by decide +kernel
theorem d_Fs_findTriples_95 : decode c0_Fs_findTriples 95 = .ok (.getfield 38, 3) := by decide +kernel
theorem d_Fs_findTriples_98 : decode c0_Fs_findTriples 98 = .ok (.iload_n 2, 1) := by decide +kernel
theorem d_Fs_findTriples_99 : decode c0_Fs_findTriples 99 = .ok (.iload_n 3, 1) := by decide +kernel
theorem d_Fs_findTriples_100 : decode c0_Fs_findTriples 100 = .ok (.iload 4, 2) := by decide +kernel
theorem d_Fs_findTriples_102 : decode c0_Fs_findTriples 102 = .ok (.invokestatic 98, 3) := by decide +kernel
theorem d_Fs_findTriples_105 : decode c0_Fs_findTriples 105 = .ok (.invokevirtual 127, 3) := by decide +kernel
theorem d_Fs_findTriples_108 : decode c0_Fs_findTriples 108 = .ok (.iinc 4 1, 3) := by decide +kernel
theorem d_Fs_findTriples_111 : decode c0_Fs_findTriples 111 = .ok (.goto (-76), 3) := by decide +kernel
theorem d_Fs_findTriples_114 : decode c0_Fs_findTriples 114 = .ok (.iinc 3 1, 3) := by decide +kernel
theorem d_Fs_findTriples_117 : decode c0_Fs_findTriples 117 = .ok (.goto (-95), 3) := by decide +kernel
theorem d_Fs_findTriples_120 : decode c0_Fs_findTriples 120 = .ok (.iinc 2 1, 3) := by decide +kernel
theorem d_Fs_findTriples_123 : decode c0_Fs_findTriples 123 = .ok (.goto (-113), 3) := by decide +kernel
theorem d_Fs_findTriples_126 : decode c0_Fs_findTriples 126 = .ok (.return_, 1) := by decide +kernel
def b_Fs_findTriples_108 (K : Nat → ClassId) (N : Nat) (k10 : Option Nat → Int32 → fh_H → Option (fh_H)) (k22 : Option Nat → Int32 → Int32 → fh_H → Option (fh_H)) (k35 : Option Nat → Int32 → Int32 → Int32 → fh_H → Option (fh_H)) (o : Nat) (v1 : Option Nat) (v2 : Int32) (v3 : Int32) (v4 : Int32) (h : fh_H) : Option (fh_H) :=
  (some (v4 + 1)).bind fun x1 => k35 v1 v2 v3 x1 h
def b_Fs_findTriples_35 (K : Nat → ClassId) (N : Nat) (k10 : Option Nat → Int32 → fh_H → Option (fh_H)) (k22 : Option Nat → Int32 → Int32 → fh_H → Option (fh_H)) (k35 : Option Nat → Int32 → Int32 → Int32 → fh_H → Option (fh_H)) (o : Nat) (v1 : Option Nat) (v2 : Int32) (v3 : Int32) (v4 : Int32) (h : fh_H) : Option (fh_H) :=
  (fg_i h (some o) 2 7).bind fun x1 => if x1 ≤ v4 then ((some (v3 + 1)).bind fun x2 => k22 v1 v2 x2 h) else ((fg_a h (some o) 2 5).bind fun x3 => (fg_i h x3 5 1).bind fun x4 => if 120 ≤ x4 then (b_Fs_findTriples_108 K N k10 k22 k35 o v1 v2 v3 v4 h) else ((fg_a h (some o) 2 0).bind fun x5 => (f_FF_pack K N v2 v3 v4 h).bind fun r6 => (fg_o r6.2 x5 3).bind fun o7 => (f_Dr_isShown K N o7 1 r6.1 r6.2).bind fun r8 => if r8.1 = 0 then ((fg_a r8.2 (some o) 2 6).bind fun x9 => (fg_a r8.2 (some o) 2 5).bind fun x10 => (fg_i r8.2 x10 5 1).bind fun x11 => (fg_o r8.2 v1 4).bind fun o12 => (f_Fi_squaredArea K N o12 v2 v3 v4 r8.2).bind fun r13 => (fs_l (K 1) r13.2 x9 x11 r13.1).bind fun h14 => (fg_a h14 (some o) 2 5).bind fun x15 => (f_FF_pack K N v2 v3 v4 h14).bind fun r16 => (fg_o r16.2 x15 5).bind fun o17 => (f_IL_add K N o17 r16.1 r16.2).bind fun r18 => b_Fs_findTriples_108 K N k10 k22 k35 o v1 v2 v3 v4 r18) else (b_Fs_findTriples_108 K N k10 k22 k35 o v1 v2 v3 v4 r8.2)))
def l_Fs_findTriples_35 (K : Nat → ClassId) (N : Nat) (k10 : Option Nat → Int32 → fh_H → Option (fh_H)) (k22 : Option Nat → Int32 → Int32 → fh_H → Option (fh_H)) (o : Nat) : Nat → Option Nat → Int32 → Int32 → Int32 → fh_H → Option (fh_H)
  | 0, _, _, _, _, _ => none
  | n + 1, v1, v2, v3, v4, h => b_Fs_findTriples_35 K N k10 k22 (l_Fs_findTriples_35 K N k10 k22 o n) o v1 v2 v3 v4 h
def b_Fs_findTriples_22 (K : Nat → ClassId) (N : Nat) (k10 : Option Nat → Int32 → fh_H → Option (fh_H)) (k22 : Option Nat → Int32 → Int32 → fh_H → Option (fh_H)) (o : Nat) (v1 : Option Nat) (v2 : Int32) (v3 : Int32) (h : fh_H) : Option (fh_H) :=
  (fg_i h (some o) 2 7).bind fun x1 => if x1 ≤ v3 then ((some (v2 + 1)).bind fun x2 => k10 v1 x2 h) else ((some (v3 + 1)).bind fun x3 => l_Fs_findTriples_35 K N k10 k22 o N v1 v2 v3 x3 h)
def l_Fs_findTriples_22 (K : Nat → ClassId) (N : Nat) (k10 : Option Nat → Int32 → fh_H → Option (fh_H)) (o : Nat) : Nat → Option Nat → Int32 → Int32 → fh_H → Option (fh_H)
  | 0, _, _, _, _ => none
  | n + 1, v1, v2, v3, h => b_Fs_findTriples_22 K N k10 (l_Fs_findTriples_22 K N k10 o n) o v1 v2 v3 h
def b_Fs_findTriples_10 (K : Nat → ClassId) (N : Nat) (k10 : Option Nat → Int32 → fh_H → Option (fh_H)) (o : Nat) (v1 : Option Nat) (v2 : Int32) (h : fh_H) : Option (fh_H) :=
  (fg_i h (some o) 2 7).bind fun x1 => if x1 ≤ v2 then (some h) else ((some (v2 + 1)).bind fun x2 => l_Fs_findTriples_22 K N k10 o N v1 v2 x2 h)
def l_Fs_findTriples_10 (K : Nat → ClassId) (N : Nat) (o : Nat) : Nat → Option Nat → Int32 → fh_H → Option (fh_H)
  | 0, _, _, _ => none
  | n + 1, v1, v2, h => b_Fs_findTriples_10 K N (l_Fs_findTriples_10 K N o n) o v1 v2 h
def f_Fs_findTriples (K : Nat → ClassId) (N : Nat) (o : Nat) (a1 : Option Nat) (h0 : fh_H) : Option (fh_H) :=
  (fg_a h0 (some o) 2 5).bind fun x1 => (fp_v h0 x1 5 1 (.int 0)).bind fun h2 => l_Fs_findTriples_10 K N o N a1 0 h2
set_option maxHeartbeats 4000000 in
set_option maxRecDepth 100000 in
theorem c_Fs_findTriples {l : Launch} {D : va_G} {K : Nat → ClassId} {t : Nat → Nat} {N : Nat} {o : Nat} {a1 : Option Nat} {h0 : fh_H} {res : fh_H} (hf : f_Fs_findTriples K N o a1 h0 = some res) : fC l D K t y_Fs_findTriples c0_Fs_findTriples 5 none rm_Fs_findTriples [.ref o, va_rf a1] h0 (none) res := by
  refine fh_body (by decide) (by cases a1 <;> exact Nat.le_of_ble_eq_true rfl) ?_
  intro p e s m below meth c A ls S hr hk hnm hE hAe hI hl
  obtain ⟨hx, hb, hml, hown, hts⟩ := id S
  have hl : lv_has ls 5 [(0, va_rf (some o)), (1, va_rf a1)] := by cases a1 <;> exact hl
  have L10 : ∀ (n10 : Nat) (v1 : Option Nat) (v2 : Int32) (h : fh_H) (H : Heap) (locs : List Loc) (ls : Array Slot), lv_has ls 5 [(0, va_rf (some o)), (1, va_rf v1), (2, .int v2)] → fh_I D classes A s.heap h H locs → l_Fs_findTriples_10 K N o n10 v1 v2 h = some res → W p l e rm_Fs_findTriples s m [.ref o, va_rf a1].toArray below meth c H locs 0 0 (MQ below (fh_Q D classes h0 s.heap.size (none) res) [.ref o, va_rf a1].toArray s 0 0 A) (F0 m 10 ls []) := by
    intro n10
    induction n10 with
    | zero =>
      intro v1 v2 h H locs ls hl hI hf
      exact fh_no hf
    | succ n10 ih10 =>
      have L22 : ∀ (n22 : Nat) (v1 : Option Nat) (v2 : Int32) (v3 : Int32) (h : fh_H) (H : Heap) (locs : List Loc) (ls : Array Slot), lv_has ls 5 [(0, va_rf (some o)), (1, va_rf v1), (2, .int v2), (3, .int v3)] → fh_I D classes A s.heap h H locs → l_Fs_findTriples_22 K N (l_Fs_findTriples_10 K N o n10) o n22 v1 v2 v3 h = some res → W p l e rm_Fs_findTriples s m [.ref o, va_rf a1].toArray below meth c H locs 0 0 (MQ below (fh_Q D classes h0 s.heap.size (none) res) [.ref o, va_rf a1].toArray s 0 0 A) (F0 m 22 ls []) := by
        intro n22
        induction n22 with
        | zero =>
          intro v1 v2 v3 h H locs ls hl hI hf
          exact fh_no hf
        | succ n22 ih22 =>
          have L35 : ∀ (n35 : Nat) (v1 : Option Nat) (v2 : Int32) (v3 : Int32) (v4 : Int32) (h : fh_H) (H : Heap) (locs : List Loc) (ls : Array Slot), lv_has ls 5 [(0, va_rf (some o)), (1, va_rf v1), (2, .int v2), (3, .int v3), (4, .int v4)] → fh_I D classes A s.heap h H locs → l_Fs_findTriples_35 K N (l_Fs_findTriples_10 K N o n10) (l_Fs_findTriples_22 K N (l_Fs_findTriples_10 K N o n10) o n22) o n35 v1 v2 v3 v4 h = some res → W p l e rm_Fs_findTriples s m [.ref o, va_rf a1].toArray below meth c H locs 0 0 (MQ below (fh_Q D classes h0 s.heap.size (none) res) [.ref o, va_rf a1].toArray s 0 0 A) (F0 m 35 ls []) := by
            intro n35
            induction n35 with
            | zero =>
              intro v1 v2 v3 v4 h H locs ls hl hI hf
              exact fh_no hf
            | succ n35 ih35 =>
              have B108 : ∀ (v1 : Option Nat) (v2 : Int32) (v3 : Int32) (v4 : Int32) (h : fh_H) (H : Heap) (locs : List Loc) (ls : Array Slot), lv_has ls 5 [(0, va_rf (some o)), (1, va_rf v1), (2, .int v2), (3, .int v3), (4, .int v4)] → fh_I D classes A s.heap h H locs → b_Fs_findTriples_108 K N (l_Fs_findTriples_10 K N o n10) (l_Fs_findTriples_22 K N (l_Fs_findTriples_10 K N o n10) o n22) (l_Fs_findTriples_35 K N (l_Fs_findTriples_10 K N o n10) (l_Fs_findTriples_22 K N (l_Fs_findTriples_10 K N o n10) o n22) o n35) o v1 v2 v3 v4 h = some res → W p l e rm_Fs_findTriples s m [.ref o, va_rf a1].toArray below meth c H locs 0 0 (MQ below (fh_Q D classes h0 s.heap.size (none) res) [.ref o, va_rf a1].toArray s 0 0 A) (F0 m 108 ls []) := by
                intro v1 v2 v3 v4 h H locs ls hl hI hf
                unfold b_Fs_findTriples_108 at hf
                obtain ⟨x1, e_x1, hf⟩ := fh_b hf
                refine lv_iinc (v := x1) (lv' := [(4, .int x1), (0, va_rf (some o)), (1, va_rf v1), (2, .int v2), (3, .int v3)]) hx hb d_Fs_findTriples_108 hl (k := 4) rfl (by rw [fh_qe e_x1]; rfl) (by decide) rfl (fun ls hl => ?_)
                refine lv_goto (tgt := 35) hx hb d_Fs_findTriples_111 (by decide) ?_
                exact ih35 v1 v2 v3 x1 h _ _ _ (lv_sub hl [1, 2, 3, 4, 0] rfl) hI hf
              intro v1 v2 v3 v4 h H locs ls hl hI hf
              have hf : b_Fs_findTriples_35 K N (l_Fs_findTriples_10 K N o n10) (l_Fs_findTriples_22 K N (l_Fs_findTriples_10 K N o n10) o n22) (l_Fs_findTriples_35 K N (l_Fs_findTriples_10 K N o n10) (l_Fs_findTriples_22 K N (l_Fs_findTriples_10 K N o n10) o n22) o n35) o v1 v2 v3 v4 h = some res := hf
              unfold b_Fs_findTriples_35 at hf
              refine lv_iload hx hb d_Fs_findTriples_35 (lv_at hl 4 rfl) ?_
              refine fh_aload_n S d_Fs_findTriples_37 rfl (lv_at hl 0 rfl) ?_
              obtain ⟨x1, e_x1, hf⟩ := fh_b hf
              refine fh_geti S hE.1 hI e_x1 (hc := rfl) (hin := in_2) (by decide) (hts _ k_38) d_Fs_findTriples_38 ?_
              refine lv_icmp_ge (tgt := 114) hx hb d_Fs_findTriples_41 (by decide) (fun c_41 => ?_) (fun c_41 => ?_)
              · replace hf := fh_t c_41 hf
                obtain ⟨x2, e_x2, hf⟩ := fh_b hf
                refine lv_iinc (v := x2) (lv' := [(3, .int x2), (0, va_rf (some o)), (1, va_rf v1), (2, .int v2), (4, .int v4)]) hx hb d_Fs_findTriples_114 hl (k := 3) rfl (by rw [fh_qe e_x2]; rfl) (by decide) rfl (fun ls hl => ?_)
                refine lv_goto (tgt := 22) hx hb d_Fs_findTriples_117 (by decide) ?_
                exact ih22 v1 v2 x2 h _ _ _ (lv_sub hl [1, 2, 3, 0] rfl) hI hf
              · replace hf := fh_f c_41 hf
                refine fh_aload_n S d_Fs_findTriples_44 rfl (lv_at hl 0 rfl) ?_
                obtain ⟨x3, e_x3, hf⟩ := fh_b hf
                refine fh_geta S hE.1 hI e_x3 (hc := rfl) (hin := in_2) (by decide) (hts _ k_105) d_Fs_findTriples_45 ?_
                obtain ⟨x4, e_x4, hf⟩ := fh_b hf
                refine fh_geti S hE.1 hI e_x4 (hc := rfl) (hin := in_5) (by decide) (hts _ k_106) d_Fs_findTriples_48 ?_
                refine lv_bipush (v := 120) hx hb d_Fs_findTriples_51 (by decide) ?_
                refine lv_icmp_ge (tgt := 108) hx hb d_Fs_findTriples_53 (by decide) (fun c_53 => ?_) (fun c_53 => ?_)
                · replace hf := fh_t c_53 hf
                  exact B108 v1 v2 v3 v4 h _ _ _ (lv_sub hl [0, 1, 2, 3, 4] rfl) hI hf
                · replace hf := fh_f c_53 hf
                  refine fh_aload_n S d_Fs_findTriples_56 rfl (lv_at hl 0 rfl) ?_
                  obtain ⟨x5, e_x5, hf⟩ := fh_b hf
                  refine fh_geta S hE.1 hI e_x5 (hc := rfl) (hin := in_2) (by decide) (hts _ k_64) d_Fs_findTriples_57 ?_
                  refine lv_iconst (v := 1) hx hb d_Fs_findTriples_60 (by decide) ?_
                  refine lv_iload_n hx hb d_Fs_findTriples_61 rfl (lv_at hl 2 rfl) ?_
                  refine lv_iload_n hx hb d_Fs_findTriples_62 rfl (lv_at hl 3 rfl) ?_
                  refine lv_iload hx hb d_Fs_findTriples_63 (lv_at hl 4 rfl) ?_
                  obtain ⟨r6, e_r6, hf⟩ := fh_b hf
                  refine fh_callSN (As := [.int v2, .int v3, .int v4]) (rest := [.int 1, va_rf x5]) S fT_good hE hI (c_FF_pack e_r6) fy_FF_pack fst_FF_pack kn_3 ⟨rfl, rfl⟩ ⟨Nat.le_of_ble_eq_true rfl, Nat.le_of_ble_eq_true rfl⟩ ⟨Nat.zero_le _, Nat.zero_le _⟩ rfl hl.1 rfl (Nat.le_trans (fh_cat _) (Nat.le_of_ble_eq_true rfl)) d_Fs_findTriples_65 (fun H locs hI => ?_)
                  obtain ⟨o7, e_o7, hf⟩ := fh_b hf
                  obtain ⟨r8, e_r8, hf⟩ := fh_b hf
                  refine fh_callV (As := [.int 1, .int r6.1]) (rest := []) S fT_good hE hI e_o7 rfl (c_Dr_isShown e_r8) fy_Dr_isShown fst_Dr_isShown k_65 ⟨rfl, rfl⟩ ⟨Nat.le_of_ble_eq_true rfl, Nat.le_of_ble_eq_true rfl⟩ ⟨Nat.zero_le _, Nat.zero_le _⟩ rfl hl.1 rfl (Nat.le_of_ble_eq_true rfl) d_Fs_findTriples_68 (fun H locs hI => ?_)
                  refine lv_if_ne (tgt := 108) hx hb d_Fs_findTriples_71 (by decide) (fun c_71 => ?_) (fun c_71 => ?_)
                  · replace hf := fh_f c_71 hf
                    exact B108 v1 v2 v3 v4 r8.2 _ _ _ (lv_sub hl [0, 1, 2, 3, 4] rfl) hI hf
                  · replace hf := fh_t c_71 hf
                    refine fh_aload_n S d_Fs_findTriples_74 rfl (lv_at hl 0 rfl) ?_
                    obtain ⟨x9, e_x9, hf⟩ := fh_b hf
                    refine fh_geta S hE.1 hI e_x9 (hc := rfl) (hin := in_2) (by decide) (hts _ k_107) d_Fs_findTriples_75 ?_
                    refine fh_aload_n S d_Fs_findTriples_78 rfl (lv_at hl 0 rfl) ?_
                    obtain ⟨x10, e_x10, hf⟩ := fh_b hf
                    refine fh_geta S hE.1 hI e_x10 (hc := rfl) (hin := in_2) (by decide) (hts _ k_105) d_Fs_findTriples_79 ?_
                    obtain ⟨x11, e_x11, hf⟩ := fh_b hf
                    refine fh_geti S hE.1 hI e_x11 (hc := rfl) (hin := in_5) (by decide) (hts _ k_106) d_Fs_findTriples_82 ?_
                    refine fh_aload_n S d_Fs_findTriples_85 rfl (lv_at hl 1 rfl) ?_
                    refine lv_iload_n hx hb d_Fs_findTriples_86 rfl (lv_at hl 2 rfl) ?_
                    refine lv_iload_n hx hb d_Fs_findTriples_87 rfl (lv_at hl 3 rfl) ?_
                    refine lv_iload hx hb d_Fs_findTriples_88 (lv_at hl 4 rfl) ?_
                    obtain ⟨o12, e_o12, hf⟩ := fh_b hf
                    obtain ⟨r13, e_r13, hf⟩ := fh_b hf
                    refine fh_callV (As := [.int v2, .int v3, .int v4]) (rest := [.int x11, va_rf x9]) S fT_good hE hI e_o12 rfl (c_Fi_squaredArea e_r13) fy_Fi_squaredArea fst_Fi_squaredArea k_108 ⟨rfl, rfl⟩ ⟨Nat.le_of_ble_eq_true rfl, Nat.le_of_ble_eq_true rfl⟩ ⟨Nat.zero_le _, Nat.zero_le _⟩ rfl hl.1 rfl (Nat.le_trans (fh_cat _) (Nat.le_of_ble_eq_true rfl)) d_Fs_findTriples_90 (fun H locs hI => ?_)
                    obtain ⟨h14, e_h14, hf⟩ := fh_b hf
                    refine fh_last S hE.1 hI 1 rfl e_h14 d_Fs_findTriples_93 (fun H locs hI => ?_)
                    refine fh_aload_n S d_Fs_findTriples_94 rfl (lv_at hl 0 rfl) ?_
                    obtain ⟨x15, e_x15, hf⟩ := fh_b hf
                    refine fh_geta S hE.1 hI e_x15 (hc := rfl) (hin := in_2) (by decide) (hts _ k_105) d_Fs_findTriples_95 ?_
                    refine lv_iload_n hx hb d_Fs_findTriples_98 rfl (lv_at hl 2 rfl) ?_
                    refine lv_iload_n hx hb d_Fs_findTriples_99 rfl (lv_at hl 3 rfl) ?_
                    refine lv_iload hx hb d_Fs_findTriples_100 (lv_at hl 4 rfl) ?_
                    obtain ⟨r16, e_r16, hf⟩ := fh_b hf
                    refine fh_callSN (As := [.int v2, .int v3, .int v4]) (rest := [va_rf x15]) S fT_good hE hI (c_FF_pack e_r16) fy_FF_pack fst_FF_pack kn_3 ⟨rfl, rfl⟩ ⟨Nat.le_of_ble_eq_true rfl, Nat.le_of_ble_eq_true rfl⟩ ⟨Nat.zero_le _, Nat.zero_le _⟩ rfl hl.1 rfl (Nat.le_trans (fh_cat _) (Nat.le_of_ble_eq_true rfl)) d_Fs_findTriples_102 (fun H locs hI => ?_)
                    obtain ⟨o17, e_o17, hf⟩ := fh_b hf
                    obtain ⟨r18, e_r18, hf⟩ := fh_b hf
                    refine fh_callV (As := [.int r16.1]) (rest := []) S fT_good hE hI e_o17 rfl (c_IL_add e_r18) fy_IL_add fst_IL_add k_102 ⟨rfl, rfl⟩ ⟨Nat.le_of_ble_eq_true rfl, Nat.le_of_ble_eq_true rfl⟩ ⟨Nat.zero_le _, Nat.zero_le _⟩ rfl hl.1 rfl (Nat.le_of_ble_eq_true rfl) d_Fs_findTriples_105 (fun H locs hI => ?_)
                    exact B108 v1 v2 v3 v4 r18 _ _ _ (lv_sub hl [0, 1, 2, 3, 4] rfl) hI hf
          intro v1 v2 v3 h H locs ls hl hI hf
          have hf : b_Fs_findTriples_22 K N (l_Fs_findTriples_10 K N o n10) (l_Fs_findTriples_22 K N (l_Fs_findTriples_10 K N o n10) o n22) o v1 v2 v3 h = some res := hf
          unfold b_Fs_findTriples_22 at hf
          refine lv_iload_n hx hb d_Fs_findTriples_22 rfl (lv_at hl 3 rfl) ?_
          refine fh_aload_n S d_Fs_findTriples_23 rfl (lv_at hl 0 rfl) ?_
          obtain ⟨x1, e_x1, hf⟩ := fh_b hf
          refine fh_geti S hE.1 hI e_x1 (hc := rfl) (hin := in_2) (by decide) (hts _ k_38) d_Fs_findTriples_24 ?_
          refine lv_icmp_ge (tgt := 120) hx hb d_Fs_findTriples_27 (by decide) (fun c_27 => ?_) (fun c_27 => ?_)
          · replace hf := fh_t c_27 hf
            obtain ⟨x2, e_x2, hf⟩ := fh_b hf
            refine lv_iinc (v := x2) (lv' := [(2, .int x2), (0, va_rf (some o)), (1, va_rf v1), (3, .int v3)]) hx hb d_Fs_findTriples_120 hl (k := 2) rfl (by rw [fh_qe e_x2]; rfl) (by decide) (by generalize v1 = zz; cases zz <;> rfl) (fun ls hl => ?_)
            refine lv_goto (tgt := 10) hx hb d_Fs_findTriples_123 (by decide) ?_
            exact ih10 v1 x2 h _ _ _ (lv_sub hl [1, 2, 0] rfl) hI hf
          · replace hf := fh_f c_27 hf
            refine lv_iload_n hx hb d_Fs_findTriples_30 rfl (lv_at hl 3 rfl) ?_
            refine lv_iconst (v := 1) hx hb d_Fs_findTriples_31 (by decide) ?_
            refine lv_iadd hx hb d_Fs_findTriples_32 ?_
            obtain ⟨x3, e_x3, hf⟩ := fh_b hf
            refine fh_topi e_x3 ?_
            refine lv_istore (lv' := [(4, .int x3), (0, va_rf (some o)), (1, va_rf v1), (2, .int v2), (3, .int v3)]) hx hb d_Fs_findTriples_33 hl (by decide) rfl (fun ls hl => ?_)
            exact L35 N v1 v2 v3 x3 h _ _ _ (lv_sub hl [1, 2, 3, 4, 0] rfl) hI hf
      intro v1 v2 h H locs ls hl hI hf
      have hf : b_Fs_findTriples_10 K N (l_Fs_findTriples_10 K N o n10) o v1 v2 h = some res := hf
      unfold b_Fs_findTriples_10 at hf
      refine lv_iload_n hx hb d_Fs_findTriples_10 rfl (lv_at hl 2 rfl) ?_
      refine fh_aload_n S d_Fs_findTriples_11 rfl (lv_at hl 0 rfl) ?_
      obtain ⟨x1, e_x1, hf⟩ := fh_b hf
      refine fh_geti S hE.1 hI e_x1 (hc := rfl) (hin := in_2) (by decide) (hts _ k_38) d_Fs_findTriples_12 ?_
      refine lv_icmp_ge (tgt := 126) hx hb d_Fs_findTriples_15 (by decide) (fun c_15 => ?_) (fun c_15 => ?_)
      · replace hf := fh_t c_15 hf
        obtain rfl := Option.some.inj hf
        exact fh_vret S hr hk hAe hI d_Fs_findTriples_126
      · replace hf := fh_f c_15 hf
        refine lv_iload_n hx hb d_Fs_findTriples_18 rfl (lv_at hl 2 rfl) ?_
        refine lv_iconst (v := 1) hx hb d_Fs_findTriples_19 (by decide) ?_
        refine lv_iadd hx hb d_Fs_findTriples_20 ?_
        obtain ⟨x2, e_x2, hf⟩ := fh_b hf
        refine fh_topi e_x2 ?_
        refine lv_istore_n (lv' := [(3, .int x2), (0, va_rf (some o)), (1, va_rf v1), (2, .int v2)]) hx hb d_Fs_findTriples_21 rfl hl (by decide) rfl (fun ls hl => ?_)
        exact L22 N v1 v2 x2 h _ _ _ (lv_sub hl [1, 2, 3, 0] rfl) hI hf
  unfold f_Fs_findTriples at hf
  refine fh_aload_n S d_Fs_findTriples_0 rfl (lv_at hl 0 rfl) ?_
  obtain ⟨x1, e_x1, hf⟩ := fh_b hf
  refine fh_geta S hE.1 hI e_x1 (hc := rfl) (hin := in_2) (by decide) (hts _ k_105) d_Fs_findTriples_1 ?_
  refine lv_iconst (v := 0) hx hb d_Fs_findTriples_4 (by decide) ?_
  obtain ⟨h2, e_h2, hf⟩ := fh_b hf
  refine fh_putv S hE.1 hI e_h2 (hc := rfl) (hin := in_5) tok_5 nok_5 (by decide) (hts _ k_106) rfl rfl rfl d_Fs_findTriples_5 (fun H locs hI => ?_)
  refine lv_iconst (v := 0) hx hb d_Fs_findTriples_8 (by decide) ?_
  refine lv_istore_n (lv' := [(2, .int 0), (0, va_rf (some o)), (1, va_rf a1)]) hx hb d_Fs_findTriples_9 rfl hl (by decide) (by generalize a1 = zz; cases zz <;> rfl) (fun ls hl => ?_)
  exact L10 N a1 0 h2 _ _ _ (lv_sub hl [1, 2, 0] rfl) hI hf
theorem d_Fs_listAreas_0 : decode c0_Fs_listAreas 0 = .ok (.aload_n 0, 1) := by decide +kernel
theorem d_Fs_listAreas_1 : decode c0_Fs_listAreas 1 = .ok (.getfield 12, 3) := by decide +kernel
theorem d_Fs_listAreas_4 : decode c0_Fs_listAreas 4 = .ok (.invokevirtual 140, 3) := by decide +kernel
theorem d_Fs_listAreas_7 : decode c0_Fs_listAreas 7 = .ok (.astore_n 1, 1) := by decide +kernel
theorem d_Fs_listAreas_8 : decode c0_Fs_listAreas 8 = .ok (.aload_n 1, 1) := by decide +kernel
theorem d_Fs_listAreas_9 : decode c0_Fs_listAreas 9 = .ok (.ifnonnull 4, 3) := by decide +kernel
theorem d_Fs_listAreas_12 : decode c0_Fs_listAreas 12 = .ok (.return_, 1) := by decide +kernel
theorem d_Fs_listAreas_13 : decode c0_Fs_listAreas 13 = .ok (.aload_n 0, 1) := by decide +kernel
theorem d_Fs_listAreas_14 : decode c0_Fs_listAreas 14 = .ok (.aload_n 1, 1) := by decide +kernel
theorem d_Fs_listAreas_15 : decode c0_Fs_listAreas 15 = .ok (.invokevirtual 144, 3) := by decide +kernel
theorem d_Fs_listAreas_18 : decode c0_Fs_listAreas 18 = .ok (.iconst 0, 1) := by decide +kernel
theorem d_Fs_listAreas_19 : decode c0_Fs_listAreas 19 = .ok (.istore_n 2, 1) := by decide +kernel
theorem d_Fs_listAreas_20 : decode c0_Fs_listAreas 20 = .ok (.iload_n 2, 1) := by decide +kernel
theorem d_Fs_listAreas_21 : decode c0_Fs_listAreas 21 = .ok (.aload_n 0, 1) := by decide +kernel
theorem d_Fs_listAreas_22 : decode c0_Fs_listAreas 22 = .ok (.getfield 38, 3) := by decide +kernel
theorem d_Fs_listAreas_25 : decode c0_Fs_listAreas 25 = .ok (.getfield 66, 3) := by decide +kernel
theorem d_Fs_listAreas_28 : decode c0_Fs_listAreas 28 = .ok (.if_icmp .ge 73, 3) := by decide +kernel
theorem d_Fs_listAreas_31 : decode c0_Fs_listAreas 31 = .ok (.iload_n 2, 1) := by decide +kernel
theorem d_Fs_listAreas_32 : decode c0_Fs_listAreas 32 = .ok (.iconst 1, 1) := by decide +kernel
theorem d_Fs_listAreas_33 : decode c0_Fs_listAreas 33 = .ok (.iadd, 1) := by decide +kernel
theorem d_Fs_listAreas_34 : decode c0_Fs_listAreas 34 = .ok (.istore_n 3, 1) := by decide +kernel
theorem d_Fs_listAreas_35 : decode c0_Fs_listAreas 35 = .ok (.iload_n 3, 1) := by decide +kernel
theorem d_Fs_listAreas_36 : decode c0_Fs_listAreas 36 = .ok (.aload_n 0, 1) := by decide +kernel
theorem d_Fs_listAreas_37 : decode c0_Fs_listAreas 37 = .ok (.getfield 38, 3) := by decide +kernel
theorem d_Fs_listAreas_40 : decode c0_Fs_listAreas 40 = .ok (.getfield 66, 3) := by decide +kernel
theorem d_Fs_listAreas_43 : decode c0_Fs_listAreas 43 = .ok (.if_icmp .ge 52, 3) := by decide +kernel
theorem d_Fs_listAreas_46 : decode c0_Fs_listAreas 46 = .ok (.aload_n 0, 1) := by decide +kernel
theorem d_Fs_listAreas_47 : decode c0_Fs_listAreas 47 = .ok (.getfield 41, 3) := by decide +kernel
theorem d_Fs_listAreas_50 : decode c0_Fs_listAreas 50 = .ok (.iload_n 2, 1) := by decide +kernel
theorem d_Fs_listAreas_51 : decode c0_Fs_listAreas 51 = .ok (.laload, 1) := by decide +kernel
theorem d_Fs_listAreas_52 : decode c0_Fs_listAreas 52 = .ok (.aload_n 0, 1) := by decide +kernel
theorem d_Fs_listAreas_53 : decode c0_Fs_listAreas 53 = .ok (.getfield 41, 3) := by decide +kernel
theorem d_Fs_listAreas_56 : decode c0_Fs_listAreas 56 = .ok (.iload_n 3, 1) := by decide +kernel
theorem d_Fs_listAreas_57 : decode c0_Fs_listAreas 57 = .ok (.laload, 1) := by decide +kernel
theorem d_Fs_listAreas_58 : decode c0_Fs_listAreas 58 = .ok (.lcmp, 1) := by decide +kernel
theorem d_Fs_listAreas_59 : decode c0_Fs_listAreas 59 = .ok (.ifCond .ne 30, 3) := by decide +kernel
theorem d_Fs_listAreas_62 : decode c0_Fs_listAreas 62 = .ok (.aload_n 0, 1) := by decide +kernel
theorem d_Fs_listAreas_63 : decode c0_Fs_listAreas 63 = .ok (.bipush 7, 2) := by decide +kernel
theorem d_Fs_listAreas_65 : decode c0_Fs_listAreas 65 = .ok (.aload_n 0, 1) := by decide +kernel
theorem d_Fs_listAreas_66 : decode c0_Fs_listAreas 66 = .ok (.getfield 38, 3) := by decide +kernel
theorem d_Fs_listAreas_69 : decode c0_Fs_listAreas 69 = .ok (.getfield 148, 3) := by decide +kernel
theorem d_Fs_listAreas_72 : decode c0_Fs_listAreas 72 = .ok (.iload_n 2, 1) := by decide +kernel
theorem d_Fs_listAreas_73 : decode c0_Fs_listAreas 73 = .ok (.iaload, 1) := by decide +kernel
theorem d_Fs_listAreas_74 : decode c0_Fs_listAreas 74 = .ok (.aload_n 0, 1) := by decide +kernel
theorem d_Fs_listAreas_75 : decode c0_Fs_listAreas 75 = .ok (.getfield 38, 3) := by decide +kernel
theorem d_Fs_listAreas_78 : decode c0_Fs_listAreas 78 = .ok (.getfield 148, 3) := by decide +kernel
theorem d_Fs_listAreas_81 : decode c0_Fs_listAreas 81 = .ok (.iload_n 3, 1) := by decide +kernel
theorem d_Fs_listAreas_82 : decode c0_Fs_listAreas 82 = .ok (.iaload, 1) := by decide +kernel
theorem d_Fs_listAreas_83 : decode c0_Fs_listAreas 83 = .ok (.invokestatic 109, 3) := by decide +kernel
theorem d_Fs_listAreas_86 : decode c0_Fs_listAreas 86 = .ok (.invokevirtual 130, 3) := by decide +kernel
theorem d_Fs_listAreas_89 : decode c0_Fs_listAreas 89 = .ok (.iinc 3 1, 3) := by decide +kernel
theorem d_Fs_listAreas_92 : decode c0_Fs_listAreas 92 = .ok (.goto (-57), 3) := by decide +kernel
theorem d_Fs_listAreas_95 : decode c0_Fs_listAreas 95 = .ok (.iinc 2 1, 3) := by decide +kernel
theorem d_Fs_listAreas_98 : decode c0_Fs_listAreas 98 = .ok (.goto (-78), 3) := by decide +kernel
theorem d_Fs_listAreas_101 : decode c0_Fs_listAreas 101 = .ok (.return_, 1) := by decide +kernel
def b_Fs_listAreas_89 (K : Nat → ClassId) (N : Nat) (k20 : Int32 → fh_H → Option (fh_H)) (k35 : Int32 → Int32 → fh_H → Option (fh_H)) (o : Nat) (v2 : Int32) (v3 : Int32) (h : fh_H) : Option (fh_H) :=
  (some (v3 + 1)).bind fun x1 => k35 v2 x1 h
def b_Fs_listAreas_35 (K : Nat → ClassId) (N : Nat) (k20 : Int32 → fh_H → Option (fh_H)) (k35 : Int32 → Int32 → fh_H → Option (fh_H)) (o : Nat) (v2 : Int32) (v3 : Int32) (h : fh_H) : Option (fh_H) :=
  (fg_a h (some o) 2 5).bind fun x1 => (fg_i h x1 5 1).bind fun x2 => if x2 ≤ v3 then ((some (v2 + 1)).bind fun x3 => k20 x3 h) else ((fg_a h (some o) 2 6).bind fun x4 => (fa_l (K 1) h x4 v2).bind fun x5 => (fg_a h (some o) 2 6).bind fun x6 => (fa_l (K 1) h x6 v3).bind fun x7 => if (lg_cmp x5 x7) = 0 then ((fg_a h (some o) 2 5).bind fun x8 => (fg_a h x8 5 0).bind fun x9 => (fa_i (K 0) h x9 v2).bind fun x10 => (fg_a h (some o) 2 5).bind fun x11 => (fg_a h x11 5 0).bind fun x12 => (fa_i (K 0) h x12 v3).bind fun x13 => (f_FF_join K N x10 x13 h).bind fun r14 => (fg_o r14.2 (some o) 2).bind fun o15 => (f_Fs_consider K N o15 7 r14.1 r14.2).bind fun r16 => b_Fs_listAreas_89 K N k20 k35 o v2 v3 r16) else (b_Fs_listAreas_89 K N k20 k35 o v2 v3 h))
def l_Fs_listAreas_35 (K : Nat → ClassId) (N : Nat) (k20 : Int32 → fh_H → Option (fh_H)) (o : Nat) : Nat → Int32 → Int32 → fh_H → Option (fh_H)
  | 0, _, _, _ => none
  | n + 1, v2, v3, h => b_Fs_listAreas_35 K N k20 (l_Fs_listAreas_35 K N k20 o n) o v2 v3 h
def b_Fs_listAreas_20 (K : Nat → ClassId) (N : Nat) (k20 : Int32 → fh_H → Option (fh_H)) (o : Nat) (v2 : Int32) (h : fh_H) : Option (fh_H) :=
  (fg_a h (some o) 2 5).bind fun x1 => (fg_i h x1 5 1).bind fun x2 => if x2 ≤ v2 then (some h) else ((some (v2 + 1)).bind fun x3 => l_Fs_listAreas_35 K N k20 o N v2 x3 h)
def l_Fs_listAreas_20 (K : Nat → ClassId) (N : Nat) (o : Nat) : Nat → Int32 → fh_H → Option (fh_H)
  | 0, _, _ => none
  | n + 1, v2, h => b_Fs_listAreas_20 K N (l_Fs_listAreas_20 K N o n) o v2 h
def f_Fs_listAreas (K : Nat → ClassId) (N : Nat) (o : Nat)  (h0 : fh_H) : Option (fh_H) :=
  (fg_a h0 (some o) 2 0).bind fun x1 => (fg_o h0 x1 3).bind fun o2 => (f_Dr_firstStanding K N o2 h0).bind fun r3 => if r3.1 = none then (some r3.2) else ((fg_o r3.2 (some o) 2).bind fun o4 => (f_Fs_findTriples K N o4 r3.1 r3.2).bind fun r5 => l_Fs_listAreas_20 K N o N 0 r5)
set_option maxHeartbeats 4000000 in
set_option maxRecDepth 100000 in
theorem c_Fs_listAreas {l : Launch} {D : va_G} {K : Nat → ClassId} {t : Nat → Nat} {N : Nat} {o : Nat}  {h0 : fh_H} {res : fh_H} (hf : f_Fs_listAreas K N o  h0 = some res) : fC l D K t y_Fs_listAreas c0_Fs_listAreas 4 none rm_Fs_listAreas [.ref o] h0 (none) res := by
  refine fh_body (by decide) (Nat.le_of_ble_eq_true rfl) ?_
  intro p e s m below meth c A ls S hr hk hnm hE hAe hI hl
  obtain ⟨hx, hb, hml, hown, hts⟩ := id S
  have hl : lv_has ls 4 [(0, va_rf (some o))] := hl
  have L20 : ∀ (n20 : Nat) (v2 : Int32) (h : fh_H) (H : Heap) (locs : List Loc) (ls : Array Slot), lv_has ls 4 [(0, va_rf (some o)), (2, .int v2)] → fh_I D classes A s.heap h H locs → l_Fs_listAreas_20 K N o n20 v2 h = some res → W p l e rm_Fs_listAreas s m [.ref o].toArray below meth c H locs 0 0 (MQ below (fh_Q D classes h0 s.heap.size (none) res) [.ref o].toArray s 0 0 A) (F0 m 20 ls []) := by
    intro n20
    induction n20 with
    | zero =>
      intro v2 h H locs ls hl hI hf
      exact fh_no hf
    | succ n20 ih20 =>
      have L35 : ∀ (n35 : Nat) (v2 : Int32) (v3 : Int32) (h : fh_H) (H : Heap) (locs : List Loc) (ls : Array Slot), lv_has ls 4 [(0, va_rf (some o)), (2, .int v2), (3, .int v3)] → fh_I D classes A s.heap h H locs → l_Fs_listAreas_35 K N (l_Fs_listAreas_20 K N o n20) o n35 v2 v3 h = some res → W p l e rm_Fs_listAreas s m [.ref o].toArray below meth c H locs 0 0 (MQ below (fh_Q D classes h0 s.heap.size (none) res) [.ref o].toArray s 0 0 A) (F0 m 35 ls []) := by
        intro n35
        induction n35 with
        | zero =>
          intro v2 v3 h H locs ls hl hI hf
          exact fh_no hf
        | succ n35 ih35 =>
          have B89 : ∀ (v2 : Int32) (v3 : Int32) (h : fh_H) (H : Heap) (locs : List Loc) (ls : Array Slot), lv_has ls 4 [(0, va_rf (some o)), (2, .int v2), (3, .int v3)] → fh_I D classes A s.heap h H locs → b_Fs_listAreas_89 K N (l_Fs_listAreas_20 K N o n20) (l_Fs_listAreas_35 K N (l_Fs_listAreas_20 K N o n20) o n35) o v2 v3 h = some res → W p l e rm_Fs_listAreas s m [.ref o].toArray below meth c H locs 0 0 (MQ below (fh_Q D classes h0 s.heap.size (none) res) [.ref o].toArray s 0 0 A) (F0 m 89 ls []) := by
            intro v2 v3 h H locs ls hl hI hf
            unfold b_Fs_listAreas_89 at hf
            obtain ⟨x1, e_x1, hf⟩ := fh_b hf
            refine lv_iinc (v := x1) (lv' := [(3, .int x1), (0, va_rf (some o)), (2, .int v2)]) hx hb d_Fs_listAreas_89 hl (k := 2) rfl (by rw [fh_qe e_x1]; rfl) (by decide) rfl (fun ls hl => ?_)
            refine lv_goto (tgt := 35) hx hb d_Fs_listAreas_92 (by decide) ?_
            exact ih35 v2 x1 h _ _ _ (lv_sub hl [1, 2, 0] rfl) hI hf
          intro v2 v3 h H locs ls hl hI hf
          have hf : b_Fs_listAreas_35 K N (l_Fs_listAreas_20 K N o n20) (l_Fs_listAreas_35 K N (l_Fs_listAreas_20 K N o n20) o n35) o v2 v3 h = some res := hf
          unfold b_Fs_listAreas_35 at hf
          refine lv_iload_n hx hb d_Fs_listAreas_35 rfl (lv_at hl 2 rfl) ?_
          refine fh_aload_n S d_Fs_listAreas_36 rfl (lv_at hl 0 rfl) ?_
          obtain ⟨x1, e_x1, hf⟩ := fh_b hf
          refine fh_geta S hE.1 hI e_x1 (hc := rfl) (hin := in_2) (by decide) (hts _ k_105) d_Fs_listAreas_37 ?_
          obtain ⟨x2, e_x2, hf⟩ := fh_b hf
          refine fh_geti S hE.1 hI e_x2 (hc := rfl) (hin := in_5) (by decide) (hts _ k_106) d_Fs_listAreas_40 ?_
          refine lv_icmp_ge (tgt := 95) hx hb d_Fs_listAreas_43 (by decide) (fun c_43 => ?_) (fun c_43 => ?_)
          · replace hf := fh_t c_43 hf
            obtain ⟨x3, e_x3, hf⟩ := fh_b hf
            refine lv_iinc (v := x3) (lv' := [(2, .int x3), (0, va_rf (some o)), (3, .int v3)]) hx hb d_Fs_listAreas_95 hl (k := 1) rfl (by rw [fh_qe e_x3]; rfl) (by decide) rfl (fun ls hl => ?_)
            refine lv_goto (tgt := 20) hx hb d_Fs_listAreas_98 (by decide) ?_
            exact ih20 x3 h _ _ _ (lv_sub hl [1, 0] rfl) hI hf
          · replace hf := fh_f c_43 hf
            refine fh_aload_n S d_Fs_listAreas_46 rfl (lv_at hl 0 rfl) ?_
            obtain ⟨x4, e_x4, hf⟩ := fh_b hf
            refine fh_geta S hE.1 hI e_x4 (hc := rfl) (hin := in_2) (by decide) (hts _ k_107) d_Fs_listAreas_47 ?_
            refine lv_iload_n hx hb d_Fs_listAreas_50 rfl (lv_at hl 1 rfl) ?_
            obtain ⟨x5, e_x5, hf⟩ := fh_b hf
            refine fh_lald S hE.1 hI 1 rfl e_x5 d_Fs_listAreas_51 ?_
            refine fh_aload_n S d_Fs_listAreas_52 rfl (lv_at hl 0 rfl) ?_
            obtain ⟨x6, e_x6, hf⟩ := fh_b hf
            refine fh_geta S hE.1 hI e_x6 (hc := rfl) (hin := in_2) (by decide) (hts _ k_107) d_Fs_listAreas_53 ?_
            refine lv_iload_n hx hb d_Fs_listAreas_56 rfl (lv_at hl 2 rfl) ?_
            obtain ⟨x7, e_x7, hf⟩ := fh_b hf
            refine fh_lald S hE.1 hI 1 rfl e_x7 d_Fs_listAreas_57 ?_
            refine W.lcmp hx hb d_Fs_listAreas_58 ?_
            refine lv_if_ne (tgt := 89) hx hb d_Fs_listAreas_59 (by decide) (fun c_59 => ?_) (fun c_59 => ?_)
            · replace hf := fh_f c_59 hf
              exact B89 v2 v3 h _ _ _ (lv_sub hl [0, 1, 2] rfl) hI hf
            · replace hf := fh_t c_59 hf
              refine fh_aload_n S d_Fs_listAreas_62 rfl (lv_at hl 0 rfl) ?_
              refine lv_bipush (v := 7) hx hb d_Fs_listAreas_63 (by decide) ?_
              refine fh_aload_n S d_Fs_listAreas_65 rfl (lv_at hl 0 rfl) ?_
              obtain ⟨x8, e_x8, hf⟩ := fh_b hf
              refine fh_geta S hE.1 hI e_x8 (hc := rfl) (hin := in_2) (by decide) (hts _ k_105) d_Fs_listAreas_66 ?_
              obtain ⟨x9, e_x9, hf⟩ := fh_b hf
              refine fh_geta S hE.1 hI e_x9 (hc := rfl) (hin := in_5) (by decide) (hts _ k_111) d_Fs_listAreas_69 ?_
              refine lv_iload_n hx hb d_Fs_listAreas_72 rfl (lv_at hl 1 rfl) ?_
              obtain ⟨x10, e_x10, hf⟩ := fh_b hf
              refine fh_iald S hE.1 hI 0 rfl e_x10 d_Fs_listAreas_73 ?_
              refine fh_aload_n S d_Fs_listAreas_74 rfl (lv_at hl 0 rfl) ?_
              obtain ⟨x11, e_x11, hf⟩ := fh_b hf
              refine fh_geta S hE.1 hI e_x11 (hc := rfl) (hin := in_2) (by decide) (hts _ k_105) d_Fs_listAreas_75 ?_
              obtain ⟨x12, e_x12, hf⟩ := fh_b hf
              refine fh_geta S hE.1 hI e_x12 (hc := rfl) (hin := in_5) (by decide) (hts _ k_111) d_Fs_listAreas_78 ?_
              refine lv_iload_n hx hb d_Fs_listAreas_81 rfl (lv_at hl 2 rfl) ?_
              obtain ⟨x13, e_x13, hf⟩ := fh_b hf
              refine fh_iald S hE.1 hI 0 rfl e_x13 d_Fs_listAreas_82 ?_
              obtain ⟨r14, e_r14, hf⟩ := fh_b hf
              refine fh_callSN (As := [.int x10, .int x13]) (rest := [.int 7, va_rf (some o)]) S fT_good hE hI (c_FF_join e_r14) fy_FF_join fst_FF_join kn_8 ⟨rfl, rfl⟩ ⟨Nat.le_of_ble_eq_true rfl, Nat.le_of_ble_eq_true rfl⟩ ⟨Nat.zero_le _, Nat.zero_le _⟩ rfl hl.1 rfl (Nat.le_of_ble_eq_true rfl) d_Fs_listAreas_83 (fun H locs hI => ?_)
              obtain ⟨o15, e_o15, hf⟩ := fh_b hf
              obtain ⟨r16, e_r16, hf⟩ := fh_b hf
              refine fh_callV (As := [.int 7, .int r14.1]) (rest := []) S fT_good hE hI e_o15 rfl (c_Fs_consider e_r16) fy_Fs_consider fst_Fs_consider k_104 ⟨rfl, rfl⟩ ⟨Nat.le_of_ble_eq_true rfl, Nat.le_of_ble_eq_true rfl⟩ ⟨Nat.zero_le _, Nat.zero_le _⟩ rfl hl.1 rfl (Nat.le_of_ble_eq_true rfl) d_Fs_listAreas_86 (fun H locs hI => ?_)
              exact B89 v2 v3 r16 _ _ _ (lv_sub hl [0, 1, 2] rfl) hI hf
      intro v2 h H locs ls hl hI hf
      have hf : b_Fs_listAreas_20 K N (l_Fs_listAreas_20 K N o n20) o v2 h = some res := hf
      unfold b_Fs_listAreas_20 at hf
      refine lv_iload_n hx hb d_Fs_listAreas_20 rfl (lv_at hl 1 rfl) ?_
      refine fh_aload_n S d_Fs_listAreas_21 rfl (lv_at hl 0 rfl) ?_
      obtain ⟨x1, e_x1, hf⟩ := fh_b hf
      refine fh_geta S hE.1 hI e_x1 (hc := rfl) (hin := in_2) (by decide) (hts _ k_105) d_Fs_listAreas_22 ?_
      obtain ⟨x2, e_x2, hf⟩ := fh_b hf
      refine fh_geti S hE.1 hI e_x2 (hc := rfl) (hin := in_5) (by decide) (hts _ k_106) d_Fs_listAreas_25 ?_
      refine lv_icmp_ge (tgt := 101) hx hb d_Fs_listAreas_28 (by decide) (fun c_28 => ?_) (fun c_28 => ?_)
      · replace hf := fh_t c_28 hf
        obtain rfl := Option.some.inj hf
        exact fh_vret S hr hk hAe hI d_Fs_listAreas_101
      · replace hf := fh_f c_28 hf
        refine lv_iload_n hx hb d_Fs_listAreas_31 rfl (lv_at hl 1 rfl) ?_
        refine lv_iconst (v := 1) hx hb d_Fs_listAreas_32 (by decide) ?_
        refine lv_iadd hx hb d_Fs_listAreas_33 ?_
        obtain ⟨x3, e_x3, hf⟩ := fh_b hf
        refine fh_topi e_x3 ?_
        refine lv_istore_n (lv' := [(3, .int x3), (0, va_rf (some o)), (2, .int v2)]) hx hb d_Fs_listAreas_34 rfl hl (by decide) rfl (fun ls hl => ?_)
        exact L35 N v2 x3 h _ _ _ (lv_sub hl [1, 2, 0] rfl) hI hf
  unfold f_Fs_listAreas at hf
  refine fh_aload_n S d_Fs_listAreas_0 rfl (lv_at hl 0 rfl) ?_
  obtain ⟨x1, e_x1, hf⟩ := fh_b hf
  refine fh_geta S hE.1 hI e_x1 (hc := rfl) (hin := in_2) (by decide) (hts _ k_64) d_Fs_listAreas_1 ?_
  obtain ⟨o2, e_o2, hf⟩ := fh_b hf
  obtain ⟨r3, e_r3, hf⟩ := fh_b hf
  refine fh_callV (As := []) (rest := []) S fT_good hE hI e_o2 rfl (c_Dr_firstStanding e_r3) fy_Dr_firstStanding fst_Dr_firstStanding k_109 ⟨rfl, rfl⟩ ⟨Nat.le_of_ble_eq_true rfl, Nat.le_of_ble_eq_true rfl⟩ ⟨Nat.zero_le _, Nat.zero_le _⟩ rfl hl.1 rfl (Nat.le_of_ble_eq_true rfl) d_Fs_listAreas_4 (fun H locs hI => ?_)
  refine fh_astore_n (lv' := [(1, va_rf r3.1), (0, va_rf (some o))]) S d_Fs_listAreas_7 rfl hl (by decide) rfl (fun ls hl => ?_)
  refine fh_aload_n S d_Fs_listAreas_8 rfl (lv_at hl 0 rfl) ?_
  refine fh_ifnonnull (tgt := 13) S d_Fs_listAreas_9 (by decide) (fun c_9 => ?_) (fun c_9 => ?_)
  · replace hf := fh_f c_9 hf
    refine fh_aload_n S d_Fs_listAreas_13 rfl (lv_at hl 1 rfl) ?_
    refine fh_aload_n S d_Fs_listAreas_14 rfl (lv_at hl 0 rfl) ?_
    obtain ⟨o4, e_o4, hf⟩ := fh_b hf
    obtain ⟨r5, e_r5, hf⟩ := fh_b hf
    refine fh_callV (As := [va_rf r3.1]) (rest := []) S fT_good hE hI e_o4 rfl (c_Fs_findTriples e_r5) fy_Fs_findTriples fst_Fs_findTriples k_110 ⟨rfl, rfl⟩ ⟨Nat.le_of_ble_eq_true rfl, Nat.le_of_ble_eq_true rfl⟩ ⟨Nat.zero_le _, Nat.zero_le _⟩ rfl hl.1 rfl (Nat.le_of_ble_eq_true rfl) d_Fs_listAreas_15 (fun H locs hI => ?_)
    refine lv_iconst (v := 0) hx hb d_Fs_listAreas_18 (by decide) ?_
    refine lv_istore_n (lv' := [(2, .int 0), (1, va_rf r3.1), (0, va_rf (some o))]) hx hb d_Fs_listAreas_19 rfl hl (by decide) (by generalize r3.1 = zz; cases zz <;> rfl) (fun ls hl => ?_)
    exact L20 N 0 r5 _ _ _ (lv_sub hl [2, 0] rfl) hI hf
  · replace hf := fh_t c_9 hf
    obtain rfl := Option.some.inj hf
    exact fh_vret S hr hk hAe hI d_Fs_listAreas_12
theorem d_Fs_listRatios_0 : decode c0_Fs_listRatios 0 = .ok (.iconst 0, 1) := by decide +kernel
theorem d_Fs_listRatios_1 : decode c0_Fs_listRatios 1 = .ok (.istore_n 1, 1) := by decide +kernel
theorem d_Fs_listRatios_2 : decode c0_Fs_listRatios 2 = .ok (.iload_n 1, 1) := by decide +kernel
theorem d_Fs_listRatios_3 : decode c0_Fs_listRatios 3 = .ok (.aload_n 0, 1) := by decide +kernel
theorem d_Fs_listRatios_4 : decode c0_Fs_listRatios 4 = .ok (.getfield 48, 3) := by decide +kernel
theorem d_Fs_listRatios_7 : decode c0_Fs_listRatios 7 = .ok (.if_icmp .ge 122, 3) := by decide +kernel
theorem d_Fs_listRatios_10 : decode c0_Fs_listRatios 10 = .ok (.iload_n 1, 1) := by decide +kernel
theorem d_Fs_listRatios_11 : decode c0_Fs_listRatios 11 = .ok (.iconst 1, 1) := by decide +kernel
theorem d_Fs_listRatios_12 : decode c0_Fs_listRatios 12 = .ok (.iadd, 1) := by decide +kernel
theorem d_Fs_listRatios_13 : decode c0_Fs_listRatios 13 = .ok (.istore_n 2, 1) := by decide +kernel
theorem d_Fs_listRatios_14 : decode c0_Fs_listRatios 14 = .ok (.iload_n 2, 1) := by decide +kernel
theorem d_Fs_listRatios_15 : decode c0_Fs_listRatios 15 = .ok (.aload_n 0, 1) := by decide +kernel
theorem d_Fs_listRatios_16 : decode c0_Fs_listRatios 16 = .ok (.getfield 48, 3) := by decide +kernel
theorem d_Fs_listRatios_19 : decode c0_Fs_listRatios 19 = .ok (.if_icmp .ge 104, 3) := by decide +kernel
theorem d_Fs_listRatios_22 : decode c0_Fs_listRatios 22 = .ok (.iload_n 1, 1) := by decide +kernel
theorem d_Fs_listRatios_23 : decode c0_Fs_listRatios 23 = .ok (.istore_n 3, 1) := by decide +kernel
theorem d_Fs_listRatios_24 : decode c0_Fs_listRatios 24 = .ok (.iload_n 3, 1) := by decide +kernel
theorem d_Fs_listRatios_25 : decode c0_Fs_listRatios 25 = .ok (.aload_n 0, 1) := by decide +kernel
theorem d_Fs_listRatios_26 : decode c0_Fs_listRatios 26 = .ok (.getfield 48, 3) := by decide +kernel
theorem d_Fs_listRatios_29 : decode c0_Fs_listRatios 29 = .ok (.if_icmp .ge 88, 3) := by decide +kernel
theorem d_Fs_listRatios_32 : decode c0_Fs_listRatios 32 = .ok (.iload_n 3, 1) := by decide +kernel
theorem d_Fs_listRatios_33 : decode c0_Fs_listRatios 33 = .ok (.iload_n 1, 1) := by decide +kernel
theorem d_Fs_listRatios_34 : decode c0_Fs_listRatios 34 = .ok (.if_icmp .ne 9, 3) := by decide +kernel
theorem d_Fs_listRatios_37 : decode c0_Fs_listRatios 37 = .ok (.iload_n 2, 1) := by decide +kernel
theorem d_Fs_listRatios_38 : decode c0_Fs_listRatios 38 = .ok (.iconst 1, 1) := by decide +kernel
theorem d_Fs_listRatios_39 : decode c0_Fs_listRatios 39 = .ok (.iadd, 1) := by decide +kernel
theorem d_Fs_listRatios_40 : decode c0_Fs_listRatios 40 = .ok (.goto 6, 3) := by decide +kernel
theorem d_Fs_listRatios_43 : decode c0_Fs_listRatios 43 = .ok (.iload_n 3, 1) := by decide +kernel
theorem d_Fs_listRatios_44 : decode c0_Fs_listRatios 44 = .ok (.iconst 1, 1) := by decide +kernel
theorem d_Fs_listRatios_45 : decode c0_Fs_listRatios 45 = .ok (.iadd, 1) := by decide +kernel
theorem d_Fs_listRatios_46 : decode c0_Fs_listRatios 46 = .ok (.istore 4, 2) := by decide +kernel
theorem d_Fs_listRatios_48 : decode c0_Fs_listRatios 48 = .ok (.iload 4, 2) := by decide +kernel
theorem d_Fs_listRatios_50 : decode c0_Fs_listRatios 50 = .ok (.aload_n 0, 1) := by decide +kernel
theorem d_Fs_listRatios_51 : decode c0_Fs_listRatios 51 = .ok (.getfield 48, 3) := by decide +kernel
theorem d_Fs_listRatios_54 : decode c0_Fs_listRatios 54 = .ok (.if_icmp .ge 57, 3) := by decide +kernel
theorem d_Fs_listRatios_57 : decode c0_Fs_listRatios 57 = .ok (.aload_n 0, 1) := by decide +kernel
theorem d_Fs_listRatios_58 : decode c0_Fs_listRatios 58 = .ok (.getfield 12, 3) := by decide +kernel
theorem d_Fs_listRatios_61 : decode c0_Fs_listRatios 61 = .ok (.iload_n 1, 1) := by decide +kernel
theorem d_Fs_listRatios_62 : decode c0_Fs_listRatios 62 = .ok (.iload_n 2, 1) := by decide +kernel
theorem d_Fs_listRatios_63 : decode c0_Fs_listRatios 63 = .ok (.iload_n 3, 1) := by decide +kernel
theorem d_Fs_listRatios_64 : decode c0_Fs_listRatios 64 = .ok (.invokestatic 98, 3) := by decide +kernel
theorem d_Fs_listRatios_67 : decode c0_Fs_listRatios 67 = .ok (.iload 4, 2) := by decide +kernel
theorem d_Fs_listRatios_69 : decode c0_Fs_listRatios 69 = .ok (.invokestatic 109, 3) := by decide +kernel
theorem d_Fs_listRatios_72 : decode c0_Fs_listRatios 72 = .ok (.invokevirtual 137, 3) := by decide +kernel
theorem d_Fs_listRatios_75 : decode c0_Fs_listRatios 75 = .ok (.istore 5, 2) := by decide +kernel
theorem d_Fs_listRatios_77 : decode c0_Fs_listRatios 77 = .ok (.iload 5, 2) := by decide +kernel
theorem d_Fs_listRatios_79 : decode c0_Fs_listRatios 79 = .ok (.ifCond .eq 26, 3) := by decide +kernel
theorem d_Fs_listRatios_82 : decode c0_Fs_listRatios 82 = .ok (.aload_n 0, 1) := by decide +kernel
theorem d_Fs_listRatios_83 : decode c0_Fs_listRatios 83 = .ok (.bipush 8, 2) := by decide +kernel
theorem d_Fs_listRatios_85 : decode c0_Fs_listRatios 85 = .ok (.iload 5, 2) := by decide +kernel
theorem d_Fs_listRatios_87 : decode c0_Fs_listRatios 87 = .ok (.invokevirtual 124, 3) := by decide +kernel
theorem d_Fs_listRatios_90 : decode c0_Fs_listRatios 90 = .ok (.ifCond .eq 15, 3) := by decide +kernel
theorem d_Fs_listRatios_93 : decode c0_Fs_listRatios 93 = .ok (.aload_n 0, 1) := by decide +kernel
theorem d_Fs_listRatios_94 : decode c0_Fs_listRatios 94 = .ok (.getfield 20, 3) := by decide +kernel
theorem d_Fs_listRatios_97 : decode c0_Fs_listRatios 97 = .ok (.bipush 8, 2) := by decide +kernel
theorem d_Fs_listRatios_99 : decode c0_Fs_listRatios 99 = .ok (.aaload, 1) := by decide +kernel
theorem d_Fs_listRatios_100 : decode c0_Fs_listRatios 100 = .ok (.iload 5, 2) := by decide +kernel
theorem d_Fs_listRatios_102 : decode c0_Fs_listRatios 102 = .ok (.invokevirtual 127, 3) := by decide +kernel
theorem d_Fs_listRatios_105 : decode c0_Fs_listRatios 105 = .ok (.iinc 4 1, 3) := by decide +kernel
theorem d_Fs_listRatios_108 : decode c0_Fs_listRatios 108 = .ok (.goto (-60), 3) := by decide +kernel
theorem d_Fs_listRatios_111 : decode c0_Fs_listRatios 111 = .ok (.iinc 3 1, 3) := by decide +kernel
theorem d_Fs_listRatios_114 : decode c0_Fs_listRatios 114 = .ok (.goto (-90), 3) := by decide +kernel
theorem d_Fs_listRatios_117 : decode c0_Fs_listRatios 117 = .ok (.iinc 2 1, 3) := by decide +kernel
theorem d_Fs_listRatios_120 : decode c0_Fs_listRatios 120 = .ok (.goto (-106), 3) := by decide +kernel
theorem d_Fs_listRatios_123 : decode c0_Fs_listRatios 123 = .ok (.iinc 1 1, 3) := by decide +kernel
theorem d_Fs_listRatios_126 : decode c0_Fs_listRatios 126 = .ok (.goto (-124), 3) := by decide +kernel
theorem d_Fs_listRatios_129 : decode c0_Fs_listRatios 129 = .ok (.return_, 1) := by decide +kernel
def b_Fs_listRatios_105 (K : Nat → ClassId) (N : Nat) (k2 : Int32 → fh_H → Option (fh_H)) (k14 : Int32 → Int32 → fh_H → Option (fh_H)) (k24 : Int32 → Int32 → Int32 → fh_H → Option (fh_H)) (k48 : Int32 → Int32 → Int32 → Int32 → fh_H → Option (fh_H)) (o : Nat) (v1 : Int32) (v2 : Int32) (v3 : Int32) (v4 : Int32) (h : fh_H) : Option (fh_H) :=
  (some (v4 + 1)).bind fun x1 => k48 v1 v2 v3 x1 h
def b_Fs_listRatios_48 (K : Nat → ClassId) (N : Nat) (k2 : Int32 → fh_H → Option (fh_H)) (k14 : Int32 → Int32 → fh_H → Option (fh_H)) (k24 : Int32 → Int32 → Int32 → fh_H → Option (fh_H)) (k48 : Int32 → Int32 → Int32 → Int32 → fh_H → Option (fh_H)) (o : Nat) (v1 : Int32) (v2 : Int32) (v3 : Int32) (v4 : Int32) (h : fh_H) : Option (fh_H) :=
  (fg_i h (some o) 2 7).bind fun x1 => if x1 ≤ v4 then ((some (v3 + 1)).bind fun x2 => k24 v1 v2 x2 h) else ((fg_a h (some o) 2 0).bind fun x3 => (f_FF_pack K N v1 v2 v3 h).bind fun r4 => (f_FF_join K N r4.1 v4 r4.2).bind fun r5 => (fg_o r5.2 x3 3).bind fun o6 => (f_Dr_giveNumbers K N o6 r5.1 r5.2).bind fun r7 => if r7.1 = 0 then (b_Fs_listRatios_105 K N k2 k14 k24 k48 o v1 v2 v3 v4 r7.2) else ((fg_o r7.2 (some o) 2).bind fun o8 => (f_Fs_isApart K N o8 8 r7.1 r7.2).bind fun r9 => if r9.1 = 0 then (b_Fs_listRatios_105 K N k2 k14 k24 k48 o v1 v2 v3 v4 r9.2) else ((fg_a r9.2 (some o) 2 1).bind fun x10 => (fa_a (K 4) r9.2 x10 8).bind fun x11 => (fg_o r9.2 x11 5).bind fun o12 => (f_IL_add K N o12 r7.1 r9.2).bind fun r13 => b_Fs_listRatios_105 K N k2 k14 k24 k48 o v1 v2 v3 v4 r13)))
def l_Fs_listRatios_48 (K : Nat → ClassId) (N : Nat) (k2 : Int32 → fh_H → Option (fh_H)) (k14 : Int32 → Int32 → fh_H → Option (fh_H)) (k24 : Int32 → Int32 → Int32 → fh_H → Option (fh_H)) (o : Nat) : Nat → Int32 → Int32 → Int32 → Int32 → fh_H → Option (fh_H)
  | 0, _, _, _, _, _ => none
  | n + 1, v1, v2, v3, v4, h => b_Fs_listRatios_48 K N k2 k14 k24 (l_Fs_listRatios_48 K N k2 k14 k24 o n) o v1 v2 v3 v4 h
def b_Fs_listRatios_46 (K : Nat → ClassId) (N : Nat) (k2 : Int32 → fh_H → Option (fh_H)) (k14 : Int32 → Int32 → fh_H → Option (fh_H)) (k24 : Int32 → Int32 → Int32 → fh_H → Option (fh_H)) (o : Nat) (v1 : Int32) (v2 : Int32) (v3 : Int32) (w0 : Int32) (h : fh_H) : Option (fh_H) :=
  l_Fs_listRatios_48 K N k2 k14 k24 o N v1 v2 v3 w0 h
def b_Fs_listRatios_24 (K : Nat → ClassId) (N : Nat) (k2 : Int32 → fh_H → Option (fh_H)) (k14 : Int32 → Int32 → fh_H → Option (fh_H)) (k24 : Int32 → Int32 → Int32 → fh_H → Option (fh_H)) (o : Nat) (v1 : Int32) (v2 : Int32) (v3 : Int32) (h : fh_H) : Option (fh_H) :=
  (fg_i h (some o) 2 7).bind fun x1 => if x1 ≤ v3 then ((some (v2 + 1)).bind fun x2 => k14 v1 x2 h) else (if v3 = v1 then (b_Fs_listRatios_46 K N k2 k14 k24 o v1 v2 v3 (v2 + 1) h) else (b_Fs_listRatios_46 K N k2 k14 k24 o v1 v2 v3 (v3 + 1) h))
def l_Fs_listRatios_24 (K : Nat → ClassId) (N : Nat) (k2 : Int32 → fh_H → Option (fh_H)) (k14 : Int32 → Int32 → fh_H → Option (fh_H)) (o : Nat) : Nat → Int32 → Int32 → Int32 → fh_H → Option (fh_H)
  | 0, _, _, _, _ => none
  | n + 1, v1, v2, v3, h => b_Fs_listRatios_24 K N k2 k14 (l_Fs_listRatios_24 K N k2 k14 o n) o v1 v2 v3 h
def b_Fs_listRatios_14 (K : Nat → ClassId) (N : Nat) (k2 : Int32 → fh_H → Option (fh_H)) (k14 : Int32 → Int32 → fh_H → Option (fh_H)) (o : Nat) (v1 : Int32) (v2 : Int32) (h : fh_H) : Option (fh_H) :=
  (fg_i h (some o) 2 7).bind fun x1 => if x1 ≤ v2 then ((some (v1 + 1)).bind fun x2 => k2 x2 h) else (l_Fs_listRatios_24 K N k2 k14 o N v1 v2 v1 h)
def l_Fs_listRatios_14 (K : Nat → ClassId) (N : Nat) (k2 : Int32 → fh_H → Option (fh_H)) (o : Nat) : Nat → Int32 → Int32 → fh_H → Option (fh_H)
  | 0, _, _, _ => none
  | n + 1, v1, v2, h => b_Fs_listRatios_14 K N k2 (l_Fs_listRatios_14 K N k2 o n) o v1 v2 h
def b_Fs_listRatios_2 (K : Nat → ClassId) (N : Nat) (k2 : Int32 → fh_H → Option (fh_H)) (o : Nat) (v1 : Int32) (h : fh_H) : Option (fh_H) :=
  (fg_i h (some o) 2 7).bind fun x1 => if x1 ≤ v1 then (some h) else ((some (v1 + 1)).bind fun x2 => l_Fs_listRatios_14 K N k2 o N v1 x2 h)
def l_Fs_listRatios_2 (K : Nat → ClassId) (N : Nat) (o : Nat) : Nat → Int32 → fh_H → Option (fh_H)
  | 0, _, _ => none
  | n + 1, v1, h => b_Fs_listRatios_2 K N (l_Fs_listRatios_2 K N o n) o v1 h
def f_Fs_listRatios (K : Nat → ClassId) (N : Nat) (o : Nat)  (h0 : fh_H) : Option (fh_H) :=
  l_Fs_listRatios_2 K N o N 0 h0
set_option maxHeartbeats 4000000 in
set_option maxRecDepth 100000 in
theorem c_Fs_listRatios {l : Launch} {D : va_G} {K : Nat → ClassId} {t : Nat → Nat} {N : Nat} {o : Nat}  {h0 : fh_H} {res : fh_H} (hf : f_Fs_listRatios K N o  h0 = some res) : fC l D K t y_Fs_listRatios c0_Fs_listRatios 6 none rm_Fs_listRatios [.ref o] h0 (none) res := by
  refine fh_body (by decide) (Nat.le_of_ble_eq_true rfl) ?_
  intro p e s m below meth c A ls S hr hk hnm hE hAe hI hl
  obtain ⟨hx, hb, hml, hown, hts⟩ := id S
  have hl : lv_has ls 6 [(0, va_rf (some o))] := hl
  have L2 : ∀ (n2 : Nat) (v1 : Int32) (h : fh_H) (H : Heap) (locs : List Loc) (ls : Array Slot), lv_has ls 6 [(0, va_rf (some o)), (1, .int v1)] → fh_I D classes A s.heap h H locs → l_Fs_listRatios_2 K N o n2 v1 h = some res → W p l e rm_Fs_listRatios s m [.ref o].toArray below meth c H locs 0 0 (MQ below (fh_Q D classes h0 s.heap.size (none) res) [.ref o].toArray s 0 0 A) (F0 m 2 ls []) := by
    intro n2
    induction n2 with
    | zero =>
      intro v1 h H locs ls hl hI hf
      exact fh_no hf
    | succ n2 ih2 =>
      have L14 : ∀ (n14 : Nat) (v1 : Int32) (v2 : Int32) (h : fh_H) (H : Heap) (locs : List Loc) (ls : Array Slot), lv_has ls 6 [(0, va_rf (some o)), (1, .int v1), (2, .int v2)] → fh_I D classes A s.heap h H locs → l_Fs_listRatios_14 K N (l_Fs_listRatios_2 K N o n2) o n14 v1 v2 h = some res → W p l e rm_Fs_listRatios s m [.ref o].toArray below meth c H locs 0 0 (MQ below (fh_Q D classes h0 s.heap.size (none) res) [.ref o].toArray s 0 0 A) (F0 m 14 ls []) := by
        intro n14
        induction n14 with
        | zero =>
          intro v1 v2 h H locs ls hl hI hf
          exact fh_no hf
        | succ n14 ih14 =>
          have L24 : ∀ (n24 : Nat) (v1 : Int32) (v2 : Int32) (v3 : Int32) (h : fh_H) (H : Heap) (locs : List Loc) (ls : Array Slot), lv_has ls 6 [(0, va_rf (some o)), (1, .int v1), (2, .int v2), (3, .int v3)] → fh_I D classes A s.heap h H locs → l_Fs_listRatios_24 K N (l_Fs_listRatios_2 K N o n2) (l_Fs_listRatios_14 K N (l_Fs_listRatios_2 K N o n2) o n14) o n24 v1 v2 v3 h = some res → W p l e rm_Fs_listRatios s m [.ref o].toArray below meth c H locs 0 0 (MQ below (fh_Q D classes h0 s.heap.size (none) res) [.ref o].toArray s 0 0 A) (F0 m 24 ls []) := by
            intro n24
            induction n24 with
            | zero =>
              intro v1 v2 v3 h H locs ls hl hI hf
              exact fh_no hf
            | succ n24 ih24 =>
              have L48 : ∀ (n48 : Nat) (v1 : Int32) (v2 : Int32) (v3 : Int32) (v4 : Int32) (h : fh_H) (H : Heap) (locs : List Loc) (ls : Array Slot), lv_has ls 6 [(0, va_rf (some o)), (1, .int v1), (2, .int v2), (3, .int v3), (4, .int v4)] → fh_I D classes A s.heap h H locs → l_Fs_listRatios_48 K N (l_Fs_listRatios_2 K N o n2) (l_Fs_listRatios_14 K N (l_Fs_listRatios_2 K N o n2) o n14) (l_Fs_listRatios_24 K N (l_Fs_listRatios_2 K N o n2) (l_Fs_listRatios_14 K N (l_Fs_listRatios_2 K N o n2) o n14) o n24) o n48 v1 v2 v3 v4 h = some res → W p l e rm_Fs_listRatios s m [.ref o].toArray below meth c H locs 0 0 (MQ below (fh_Q D classes h0 s.heap.size (none) res) [.ref o].toArray s 0 0 A) (F0 m 48 ls []) := by
                intro n48
                induction n48 with
                | zero =>
                  intro v1 v2 v3 v4 h H locs ls hl hI hf
                  exact fh_no hf
                | succ n48 ih48 =>
                  have B105 : ∀ (v1 : Int32) (v2 : Int32) (v3 : Int32) (v4 : Int32) (h : fh_H) (H : Heap) (locs : List Loc) (ls : Array Slot), lv_has ls 6 [(0, va_rf (some o)), (1, .int v1), (2, .int v2), (3, .int v3), (4, .int v4)] → fh_I D classes A s.heap h H locs → b_Fs_listRatios_105 K N (l_Fs_listRatios_2 K N o n2) (l_Fs_listRatios_14 K N (l_Fs_listRatios_2 K N o n2) o n14) (l_Fs_listRatios_24 K N (l_Fs_listRatios_2 K N o n2) (l_Fs_listRatios_14 K N (l_Fs_listRatios_2 K N o n2) o n14) o n24) (l_Fs_listRatios_48 K N (l_Fs_listRatios_2 K N o n2) (l_Fs_listRatios_14 K N (l_Fs_listRatios_2 K N o n2) o n14) (l_Fs_listRatios_24 K N (l_Fs_listRatios_2 K N o n2) (l_Fs_listRatios_14 K N (l_Fs_listRatios_2 K N o n2) o n14) o n24) o n48) o v1 v2 v3 v4 h = some res → W p l e rm_Fs_listRatios s m [.ref o].toArray below meth c H locs 0 0 (MQ below (fh_Q D classes h0 s.heap.size (none) res) [.ref o].toArray s 0 0 A) (F0 m 105 ls []) := by
                    intro v1 v2 v3 v4 h H locs ls hl hI hf
                    unfold b_Fs_listRatios_105 at hf
                    obtain ⟨x1, e_x1, hf⟩ := fh_b hf
                    refine lv_iinc (v := x1) (lv' := [(4, .int x1), (0, va_rf (some o)), (1, .int v1), (2, .int v2), (3, .int v3)]) hx hb d_Fs_listRatios_105 hl (k := 4) rfl (by rw [fh_qe e_x1]; rfl) (by decide) rfl (fun ls hl => ?_)
                    refine lv_goto (tgt := 48) hx hb d_Fs_listRatios_108 (by decide) ?_
                    exact ih48 v1 v2 v3 x1 h _ _ _ (lv_sub hl [1, 2, 3, 4, 0] rfl) hI hf
                  intro v1 v2 v3 v4 h H locs ls hl hI hf
                  have hf : b_Fs_listRatios_48 K N (l_Fs_listRatios_2 K N o n2) (l_Fs_listRatios_14 K N (l_Fs_listRatios_2 K N o n2) o n14) (l_Fs_listRatios_24 K N (l_Fs_listRatios_2 K N o n2) (l_Fs_listRatios_14 K N (l_Fs_listRatios_2 K N o n2) o n14) o n24) (l_Fs_listRatios_48 K N (l_Fs_listRatios_2 K N o n2) (l_Fs_listRatios_14 K N (l_Fs_listRatios_2 K N o n2) o n14) (l_Fs_listRatios_24 K N (l_Fs_listRatios_2 K N o n2) (l_Fs_listRatios_14 K N (l_Fs_listRatios_2 K N o n2) o n14) o n24) o n48) o v1 v2 v3 v4 h = some res := hf
                  unfold b_Fs_listRatios_48 at hf
                  refine lv_iload hx hb d_Fs_listRatios_48 (lv_at hl 4 rfl) ?_
                  refine fh_aload_n S d_Fs_listRatios_50 rfl (lv_at hl 0 rfl) ?_
                  obtain ⟨x1, e_x1, hf⟩ := fh_b hf
                  refine fh_geti S hE.1 hI e_x1 (hc := rfl) (hin := in_2) (by decide) (hts _ k_38) d_Fs_listRatios_51 ?_
                  refine lv_icmp_ge (tgt := 111) hx hb d_Fs_listRatios_54 (by decide) (fun c_54 => ?_) (fun c_54 => ?_)
                  · replace hf := fh_t c_54 hf
                    obtain ⟨x2, e_x2, hf⟩ := fh_b hf
                    refine lv_iinc (v := x2) (lv' := [(3, .int x2), (0, va_rf (some o)), (1, .int v1), (2, .int v2), (4, .int v4)]) hx hb d_Fs_listRatios_111 hl (k := 3) rfl (by rw [fh_qe e_x2]; rfl) (by decide) rfl (fun ls hl => ?_)
                    refine lv_goto (tgt := 24) hx hb d_Fs_listRatios_114 (by decide) ?_
                    exact ih24 v1 v2 x2 h _ _ _ (lv_sub hl [1, 2, 3, 0] rfl) hI hf
                  · replace hf := fh_f c_54 hf
                    refine fh_aload_n S d_Fs_listRatios_57 rfl (lv_at hl 0 rfl) ?_
                    obtain ⟨x3, e_x3, hf⟩ := fh_b hf
                    refine fh_geta S hE.1 hI e_x3 (hc := rfl) (hin := in_2) (by decide) (hts _ k_64) d_Fs_listRatios_58 ?_
                    refine lv_iload_n hx hb d_Fs_listRatios_61 rfl (lv_at hl 1 rfl) ?_
                    refine lv_iload_n hx hb d_Fs_listRatios_62 rfl (lv_at hl 2 rfl) ?_
                    refine lv_iload_n hx hb d_Fs_listRatios_63 rfl (lv_at hl 3 rfl) ?_
                    obtain ⟨r4, e_r4, hf⟩ := fh_b hf
                    refine fh_callSN (As := [.int v1, .int v2, .int v3]) (rest := [va_rf x3]) S fT_good hE hI (c_FF_pack e_r4) fy_FF_pack fst_FF_pack kn_3 ⟨rfl, rfl⟩ ⟨Nat.le_of_ble_eq_true rfl, Nat.le_of_ble_eq_true rfl⟩ ⟨Nat.zero_le _, Nat.zero_le _⟩ rfl hl.1 rfl (Nat.le_trans (fh_cat _) (Nat.le_of_ble_eq_true rfl)) d_Fs_listRatios_64 (fun H locs hI => ?_)
                    refine lv_iload hx hb d_Fs_listRatios_67 (lv_at hl 4 rfl) ?_
                    obtain ⟨r5, e_r5, hf⟩ := fh_b hf
                    refine fh_callSN (As := [.int r4.1, .int v4]) (rest := [va_rf x3]) S fT_good hE hI (c_FF_join e_r5) fy_FF_join fst_FF_join kn_8 ⟨rfl, rfl⟩ ⟨Nat.le_of_ble_eq_true rfl, Nat.le_of_ble_eq_true rfl⟩ ⟨Nat.zero_le _, Nat.zero_le _⟩ rfl hl.1 rfl (Nat.le_trans (fh_cat _) (Nat.le_of_ble_eq_true rfl)) d_Fs_listRatios_69 (fun H locs hI => ?_)
                    obtain ⟨o6, e_o6, hf⟩ := fh_b hf
                    obtain ⟨r7, e_r7, hf⟩ := fh_b hf
                    refine fh_callV (As := [.int r5.1]) (rest := []) S fT_good hE hI e_o6 rfl (c_Dr_giveNumbers e_r7) fy_Dr_giveNumbers fst_Dr_giveNumbers k_112 ⟨rfl, rfl⟩ ⟨Nat.le_of_ble_eq_true rfl, Nat.le_of_ble_eq_true rfl⟩ ⟨Nat.zero_le _, Nat.zero_le _⟩ rfl hl.1 rfl (Nat.le_of_ble_eq_true rfl) d_Fs_listRatios_72 (fun H locs hI => ?_)
                    refine lv_istore (lv' := [(5, .int r7.1), (0, va_rf (some o)), (1, .int v1), (2, .int v2), (3, .int v3), (4, .int v4)]) hx hb d_Fs_listRatios_75 hl (by decide) rfl (fun ls hl => ?_)
                    refine lv_iload hx hb d_Fs_listRatios_77 (lv_at hl 0 rfl) ?_
                    refine lv_if_eq (tgt := 105) hx hb d_Fs_listRatios_79 (by decide) (fun c_79 => ?_) (fun c_79 => ?_)
                    · replace hf := fh_t c_79 hf
                      exact B105 v1 v2 v3 v4 r7.2 _ _ _ (lv_sub hl [1, 2, 3, 4, 5] rfl) hI hf
                    · replace hf := fh_f c_79 hf
                      refine fh_aload_n S d_Fs_listRatios_82 rfl (lv_at hl 1 rfl) ?_
                      refine lv_bipush (v := 8) hx hb d_Fs_listRatios_83 (by decide) ?_
                      refine lv_iload hx hb d_Fs_listRatios_85 (lv_at hl 0 rfl) ?_
                      obtain ⟨o8, e_o8, hf⟩ := fh_b hf
                      obtain ⟨r9, e_r9, hf⟩ := fh_b hf
                      refine fh_callV (As := [.int 8, .int r7.1]) (rest := []) S fT_good hE hI e_o8 rfl (c_Fs_isApart e_r9) fy_Fs_isApart fst_Fs_isApart k_103 ⟨rfl, rfl⟩ ⟨Nat.le_of_ble_eq_true rfl, Nat.le_of_ble_eq_true rfl⟩ ⟨Nat.zero_le _, Nat.zero_le _⟩ rfl hl.1 rfl (Nat.le_of_ble_eq_true rfl) d_Fs_listRatios_87 (fun H locs hI => ?_)
                      refine lv_if_eq (tgt := 105) hx hb d_Fs_listRatios_90 (by decide) (fun c_90 => ?_) (fun c_90 => ?_)
                      · replace hf := fh_t c_90 hf
                        exact B105 v1 v2 v3 v4 r9.2 _ _ _ (lv_sub hl [1, 2, 3, 4, 5] rfl) hI hf
                      · replace hf := fh_f c_90 hf
                        refine fh_aload_n S d_Fs_listRatios_93 rfl (lv_at hl 1 rfl) ?_
                        obtain ⟨x10, e_x10, hf⟩ := fh_b hf
                        refine fh_geta S hE.1 hI e_x10 (hc := rfl) (hin := in_2) (by decide) (hts _ k_101) d_Fs_listRatios_94 ?_
                        refine lv_bipush (v := 8) hx hb d_Fs_listRatios_97 (by decide) ?_
                        obtain ⟨x11, e_x11, hf⟩ := fh_b hf
                        refine fh_aald S hE.1 hI 4 rfl e_x11 d_Fs_listRatios_99 ?_
                        refine lv_iload hx hb d_Fs_listRatios_100 (lv_at hl 0 rfl) ?_
                        obtain ⟨o12, e_o12, hf⟩ := fh_b hf
                        obtain ⟨r13, e_r13, hf⟩ := fh_b hf
                        refine fh_callV (As := [.int r7.1]) (rest := []) S fT_good hE hI e_o12 rfl (c_IL_add e_r13) fy_IL_add fst_IL_add k_102 ⟨rfl, rfl⟩ ⟨Nat.le_of_ble_eq_true rfl, Nat.le_of_ble_eq_true rfl⟩ ⟨Nat.zero_le _, Nat.zero_le _⟩ rfl hl.1 rfl (Nat.le_of_ble_eq_true rfl) d_Fs_listRatios_102 (fun H locs hI => ?_)
                        exact B105 v1 v2 v3 v4 r13 _ _ _ (lv_sub hl [1, 2, 3, 4, 5] rfl) hI hf
              have B46 : ∀ (v1 : Int32) (v2 : Int32) (v3 : Int32) (w0 : Int32) (h : fh_H) (H : Heap) (locs : List Loc) (ls : Array Slot), lv_has ls 6 [(0, va_rf (some o)), (1, .int v1), (2, .int v2), (3, .int v3)] → fh_I D classes A s.heap h H locs → b_Fs_listRatios_46 K N (l_Fs_listRatios_2 K N o n2) (l_Fs_listRatios_14 K N (l_Fs_listRatios_2 K N o n2) o n14) (l_Fs_listRatios_24 K N (l_Fs_listRatios_2 K N o n2) (l_Fs_listRatios_14 K N (l_Fs_listRatios_2 K N o n2) o n14) o n24) o v1 v2 v3 w0 h = some res → W p l e rm_Fs_listRatios s m [.ref o].toArray below meth c H locs 0 0 (MQ below (fh_Q D classes h0 s.heap.size (none) res) [.ref o].toArray s 0 0 A) (F0 m 46 ls [.int w0]) := by
                intro v1 v2 v3 w0 h H locs ls hl hI hf
                unfold b_Fs_listRatios_46 at hf
                refine lv_istore (lv' := [(4, .int w0), (0, va_rf (some o)), (1, .int v1), (2, .int v2), (3, .int v3)]) hx hb d_Fs_listRatios_46 hl (by decide) rfl (fun ls hl => ?_)
                exact L48 N v1 v2 v3 w0 h _ _ _ (lv_sub hl [1, 2, 3, 4, 0] rfl) hI hf
              intro v1 v2 v3 h H locs ls hl hI hf
              have hf : b_Fs_listRatios_24 K N (l_Fs_listRatios_2 K N o n2) (l_Fs_listRatios_14 K N (l_Fs_listRatios_2 K N o n2) o n14) (l_Fs_listRatios_24 K N (l_Fs_listRatios_2 K N o n2) (l_Fs_listRatios_14 K N (l_Fs_listRatios_2 K N o n2) o n14) o n24) o v1 v2 v3 h = some res := hf
              unfold b_Fs_listRatios_24 at hf
              refine lv_iload_n hx hb d_Fs_listRatios_24 rfl (lv_at hl 3 rfl) ?_
              refine fh_aload_n S d_Fs_listRatios_25 rfl (lv_at hl 0 rfl) ?_
              obtain ⟨x1, e_x1, hf⟩ := fh_b hf
              refine fh_geti S hE.1 hI e_x1 (hc := rfl) (hin := in_2) (by decide) (hts _ k_38) d_Fs_listRatios_26 ?_
              refine lv_icmp_ge (tgt := 117) hx hb d_Fs_listRatios_29 (by decide) (fun c_29 => ?_) (fun c_29 => ?_)
              · replace hf := fh_t c_29 hf
                obtain ⟨x2, e_x2, hf⟩ := fh_b hf
                refine lv_iinc (v := x2) (lv' := [(2, .int x2), (0, va_rf (some o)), (1, .int v1), (3, .int v3)]) hx hb d_Fs_listRatios_117 hl (k := 2) rfl (by rw [fh_qe e_x2]; rfl) (by decide) rfl (fun ls hl => ?_)
                refine lv_goto (tgt := 14) hx hb d_Fs_listRatios_120 (by decide) ?_
                exact ih14 v1 x2 h _ _ _ (lv_sub hl [1, 2, 0] rfl) hI hf
              · replace hf := fh_f c_29 hf
                refine lv_iload_n hx hb d_Fs_listRatios_32 rfl (lv_at hl 3 rfl) ?_
                refine lv_iload_n hx hb d_Fs_listRatios_33 rfl (lv_at hl 1 rfl) ?_
                refine lv_icmp_ne (tgt := 43) hx hb d_Fs_listRatios_34 (by decide) (fun c_34 => ?_) (fun c_34 => ?_)
                · replace hf := fh_f c_34 hf
                  refine lv_iload_n hx hb d_Fs_listRatios_43 rfl (lv_at hl 3 rfl) ?_
                  refine lv_iconst (v := 1) hx hb d_Fs_listRatios_44 (by decide) ?_
                  refine lv_iadd hx hb d_Fs_listRatios_45 ?_
                  exact B46 v1 v2 v3 (v3 + 1) h _ _ _ (lv_sub hl [0, 1, 2, 3] rfl) hI hf
                · replace hf := fh_t c_34 hf
                  refine lv_iload_n hx hb d_Fs_listRatios_37 rfl (lv_at hl 2 rfl) ?_
                  refine lv_iconst (v := 1) hx hb d_Fs_listRatios_38 (by decide) ?_
                  refine lv_iadd hx hb d_Fs_listRatios_39 ?_
                  refine lv_goto (tgt := 46) hx hb d_Fs_listRatios_40 (by decide) ?_
                  exact B46 v1 v2 v3 (v2 + 1) h _ _ _ (lv_sub hl [0, 1, 2, 3] rfl) hI hf
          intro v1 v2 h H locs ls hl hI hf
          have hf : b_Fs_listRatios_14 K N (l_Fs_listRatios_2 K N o n2) (l_Fs_listRatios_14 K N (l_Fs_listRatios_2 K N o n2) o n14) o v1 v2 h = some res := hf
          unfold b_Fs_listRatios_14 at hf
          refine lv_iload_n hx hb d_Fs_listRatios_14 rfl (lv_at hl 2 rfl) ?_
          refine fh_aload_n S d_Fs_listRatios_15 rfl (lv_at hl 0 rfl) ?_
          obtain ⟨x1, e_x1, hf⟩ := fh_b hf
          refine fh_geti S hE.1 hI e_x1 (hc := rfl) (hin := in_2) (by decide) (hts _ k_38) d_Fs_listRatios_16 ?_
          refine lv_icmp_ge (tgt := 123) hx hb d_Fs_listRatios_19 (by decide) (fun c_19 => ?_) (fun c_19 => ?_)
          · replace hf := fh_t c_19 hf
            obtain ⟨x2, e_x2, hf⟩ := fh_b hf
            refine lv_iinc (v := x2) (lv' := [(1, .int x2), (0, va_rf (some o)), (2, .int v2)]) hx hb d_Fs_listRatios_123 hl (k := 1) rfl (by rw [fh_qe e_x2]; rfl) (by decide) rfl (fun ls hl => ?_)
            refine lv_goto (tgt := 2) hx hb d_Fs_listRatios_126 (by decide) ?_
            exact ih2 x2 h _ _ _ (lv_sub hl [1, 0] rfl) hI hf
          · replace hf := fh_f c_19 hf
            refine lv_iload_n hx hb d_Fs_listRatios_22 rfl (lv_at hl 1 rfl) ?_
            refine lv_istore_n (lv' := [(3, .int v1), (0, va_rf (some o)), (1, .int v1), (2, .int v2)]) hx hb d_Fs_listRatios_23 rfl hl (by decide) rfl (fun ls hl => ?_)
            exact L24 N v1 v2 v1 h _ _ _ (lv_sub hl [1, 2, 3, 0] rfl) hI hf
      intro v1 h H locs ls hl hI hf
      have hf : b_Fs_listRatios_2 K N (l_Fs_listRatios_2 K N o n2) o v1 h = some res := hf
      unfold b_Fs_listRatios_2 at hf
      refine lv_iload_n hx hb d_Fs_listRatios_2 rfl (lv_at hl 1 rfl) ?_
      refine fh_aload_n S d_Fs_listRatios_3 rfl (lv_at hl 0 rfl) ?_
      obtain ⟨x1, e_x1, hf⟩ := fh_b hf
      refine fh_geti S hE.1 hI e_x1 (hc := rfl) (hin := in_2) (by decide) (hts _ k_38) d_Fs_listRatios_4 ?_
      refine lv_icmp_ge (tgt := 129) hx hb d_Fs_listRatios_7 (by decide) (fun c_7 => ?_) (fun c_7 => ?_)
      · replace hf := fh_t c_7 hf
        obtain rfl := Option.some.inj hf
        exact fh_vret S hr hk hAe hI d_Fs_listRatios_129
      · replace hf := fh_f c_7 hf
        refine lv_iload_n hx hb d_Fs_listRatios_10 rfl (lv_at hl 1 rfl) ?_
        refine lv_iconst (v := 1) hx hb d_Fs_listRatios_11 (by decide) ?_
        refine lv_iadd hx hb d_Fs_listRatios_12 ?_
        obtain ⟨x2, e_x2, hf⟩ := fh_b hf
        refine fh_topi e_x2 ?_
        refine lv_istore_n (lv' := [(2, .int x2), (0, va_rf (some o)), (1, .int v1)]) hx hb d_Fs_listRatios_13 rfl hl (by decide) rfl (fun ls hl => ?_)
        exact L14 N v1 x2 h _ _ _ (lv_sub hl [1, 2, 0] rfl) hI hf
  unfold f_Fs_listRatios at hf
  refine lv_iconst (v := 0) hx hb d_Fs_listRatios_0 (by decide) ?_
  refine lv_istore_n (lv' := [(1, .int 0), (0, va_rf (some o))]) hx hb d_Fs_listRatios_1 rfl hl (by decide) rfl (fun ls hl => ?_)
  exact L2 N 0 h0 _ _ _ (lv_sub hl [1, 0] rfl) hI hf
theorem d_Fs_listTwoPairs_0 : decode c0_Fs_listTwoPairs 0 = .ok (.iconst 0, 1) := by decide +kernel
theorem d_Fs_listTwoPairs_1 : decode c0_Fs_listTwoPairs 1 = .ok (.istore_n 2, 1) := by decide +kernel
theorem d_Fs_listTwoPairs_2 : decode c0_Fs_listTwoPairs 2 = .ok (.iload_n 2, 1) := by decide +kernel
theorem d_Fs_listTwoPairs_3 : decode c0_Fs_listTwoPairs 3 = .ok (.aload_n 0, 1) := by decide +kernel
theorem d_Fs_listTwoPairs_4 : decode c0_Fs_listTwoPairs 4 = .ok (.getfield 48, 3) := by decide +kernel
theorem d_Fs_listTwoPairs_7 : decode c0_Fs_listTwoPairs 7 = .ok (.if_icmp .ge 112, 3) := by decide +kernel
theorem d_Fs_listTwoPairs_10 : decode c0_Fs_listTwoPairs 10 = .ok (.iload_n 2, 1) := by decide +kernel
theorem d_Fs_listTwoPairs_11 : decode c0_Fs_listTwoPairs 11 = .ok (.iconst 1, 1) := by decide +kernel
theorem d_Fs_listTwoPairs_12 : decode c0_Fs_listTwoPairs 12 = .ok (.iadd, 1) := by decide +kernel
theorem d_Fs_listTwoPairs_13 : decode c0_Fs_listTwoPairs 13 = .ok (.istore_n 3, 1) := by decide +kernel
theorem d_Fs_listTwoPairs_14 : decode c0_Fs_listTwoPairs 14 = .ok (.iload_n 3, 1) := by decide +kernel
theorem d_Fs_listTwoPairs_15 : decode c0_Fs_listTwoPairs 15 = .ok (.aload_n 0, 1) := by decide +kernel
theorem d_Fs_listTwoPairs_16 : decode c0_Fs_listTwoPairs 16 = .ok (.getfield 48, 3) := by decide +kernel
theorem d_Fs_listTwoPairs_19 : decode c0_Fs_listTwoPairs 19 = .ok (.if_icmp .ge 94, 3) := by decide +kernel
theorem d_Fs_listTwoPairs_22 : decode c0_Fs_listTwoPairs 22 = .ok (.iload_n 2, 1) := by decide +kernel
theorem d_Fs_listTwoPairs_23 : decode c0_Fs_listTwoPairs 23 = .ok (.istore 4, 2) := by decide +kernel
theorem d_Fs_listTwoPairs_25 : decode c0_Fs_listTwoPairs 25 = .ok (.iload 4, 2) := by decide +kernel
theorem d_Fs_listTwoPairs_27 : decode c0_Fs_listTwoPairs 27 = .ok (.aload_n 0, 1) := by decide +kernel
theorem d_Fs_listTwoPairs_28 : decode c0_Fs_listTwoPairs 28 = .ok (.getfield 48, 3) := by decide +kernel
theorem d_Fs_listTwoPairs_31 : decode c0_Fs_listTwoPairs 31 = .ok (.if_icmp .ge 76, 3) := by decide +kernel
theorem d_Fs_listTwoPairs_34 : decode c0_Fs_listTwoPairs 34 = .ok (.iload 4, 2) := by decide +kernel
theorem d_Fs_listTwoPairs_36 : decode c0_Fs_listTwoPairs 36 = .ok (.iload_n 2, 1) := by decide +kernel
theorem d_Fs_listTwoPairs_37 : decode c0_Fs_listTwoPairs 37 = .ok (.if_icmp .ne 9, 3) := by decide +kernel
theorem d_Fs_listTwoPairs_40 : decode c0_Fs_listTwoPairs 40 = .ok (.iload_n 3, 1) := by decide +kernel
theorem d_Fs_listTwoPairs_41 : decode c0_Fs_listTwoPairs 41 = .ok (.iconst 1, 1) := by decide +kernel
theorem d_Fs_listTwoPairs_42 : decode c0_Fs_listTwoPairs 42 = .ok (.iadd, 1) := by decide +kernel
theorem d_Fs_listTwoPairs_43 : decode c0_Fs_listTwoPairs 43 = .ok (.goto 7, 3) := by decide +kernel
theorem d_Fs_listTwoPairs_46 : decode c0_Fs_listTwoPairs 46 = .ok (.iload 4, 2) := by decide +kernel
theorem d_Fs_listTwoPairs_48 : decode c0_Fs_listTwoPairs 48 = .ok (.iconst 1, 1) := by decide +kernel
theorem d_Fs_listTwoPairs_49 : decode c0_Fs_listTwoPairs 49 = .ok (.iadd, 1) := by decide +kernel
theorem d_Fs_listTwoPairs_50 : decode c0_Fs_listTwoPairs 50 = .ok (.istore 5, 2) := by decide +kernel
theorem d_Fs_listTwoPairs_52 : decode c0_Fs_listTwoPairs 52 = .ok (.iload 5, 2) := by decide +kernel
theorem d_Fs_listTwoPairs_54 : decode c0_Fs_listTwoPairs 54 = .ok (.aload_n 0, 1) := by decide +kernel
theorem d_Fs_listTwoPairs_55 : decode c0_Fs_listTwoPairs 55 = .ok (.getfield 48, 3) := by decide +kernel
theorem d_Fs_listTwoPairs_58 : decode c0_Fs_listTwoPairs 58 = .ok (.if_icmp .ge 43, 3) := by decide +kernel
theorem d_Fs_listTwoPairs_61 : decode c0_Fs_listTwoPairs 61 = .ok (.iload_n 1, 1) := by decide +kernel
theorem d_Fs_listTwoPairs_62 : decode c0_Fs_listTwoPairs 62 = .ok (.iconst 2, 1) := by decide +kernel
theorem d_Fs_listTwoPairs_63 : decode c0_Fs_listTwoPairs 63 = .ok (.if_icmp .ne 15, 3) := by decide +kernel
theorem d_Fs_listTwoPairs_66 : decode c0_Fs_listTwoPairs 66 = .ok (.iload_n 2, 1) := by decide +kernel
theorem d_Fs_listTwoPairs_67 : decode c0_Fs_listTwoPairs 67 = .ok (.iload_n 3, 1) := by decide +kernel
theorem d_Fs_listTwoPairs_68 : decode c0_Fs_listTwoPairs 68 = .ok (.iload 4, 2) := by decide +kernel
theorem d_Fs_listTwoPairs_70 : decode c0_Fs_listTwoPairs 70 = .ok (.iload 5, 2) := by decide +kernel
theorem d_Fs_listTwoPairs_72 : decode c0_Fs_listTwoPairs 72 = .ok (.invokestatic 133, 3) := by decide +kernel
theorem d_Fs_listTwoPairs_75 : decode c0_Fs_listTwoPairs 75 = .ok (.ifCond .eq 20, 3) := by decide +kernel
theorem d_Fs_listTwoPairs_78 : decode c0_Fs_listTwoPairs 78 = .ok (.aload_n 0, 1) := by decide +kernel
theorem d_Fs_listTwoPairs_79 : decode c0_Fs_listTwoPairs 79 = .ok (.iload_n 1, 1) := by decide +kernel
theorem d_Fs_listTwoPairs_80 : decode c0_Fs_listTwoPairs 80 = .ok (.iload_n 2, 1) := by decide +kernel
theorem d_Fs_listTwoPairs_81 : decode c0_Fs_listTwoPairs 81 = .ok (.iload_n 3, 1) := by decide +kernel
theorem d_Fs_listTwoPairs_82 : decode c0_Fs_listTwoPairs 82 = .ok (.iload 4, 2) := by decide +kernel
theorem d_Fs_listTwoPairs_84 : decode c0_Fs_listTwoPairs 84 = .ok (.invokestatic 98, 3) := by decide +kernel
theorem d_Fs_listTwoPairs_87 : decode c0_Fs_listTwoPairs 87 = .ok (.iload 5, 2) := by decide +kernel
theorem d_Fs_listTwoPairs_89 : decode c0_Fs_listTwoPairs 89 = .ok (.invokestatic 109, 3) := by decide +kernel
theorem d_Fs_listTwoPairs_92 : decode c0_Fs_listTwoPairs 92 = .ok (.invokevirtual 130, 3) := by decide +kernel
theorem d_Fs_listTwoPairs_95 : decode c0_Fs_listTwoPairs 95 = .ok (.iinc 5 1, 3) := by decide +kernel
theorem d_Fs_listTwoPairs_98 : decode c0_Fs_listTwoPairs 98 = .ok (.goto (-46), 3) := by decide +kernel
theorem d_Fs_listTwoPairs_101 : decode c0_Fs_listTwoPairs 101 = .ok (.iinc 4 1, 3) := by decide +kernel
theorem d_Fs_listTwoPairs_104 : decode c0_Fs_listTwoPairs 104 = .ok (.goto (-79), 3) := by decide +kernel
theorem d_Fs_listTwoPairs_107 : decode c0_Fs_listTwoPairs 107 = .ok (.iinc 3 1, 3) := by decide +kernel
theorem d_Fs_listTwoPairs_110 : decode c0_Fs_listTwoPairs 110 = .ok (.goto (-96), 3) := by decide +kernel
theorem d_Fs_listTwoPairs_113 : decode c0_Fs_listTwoPairs 113 = .ok (.iinc 2 1, 3) := by decide +kernel
theorem d_Fs_listTwoPairs_116 : decode c0_Fs_listTwoPairs 116 = .ok (.goto (-114), 3) := by decide +kernel
theorem d_Fs_listTwoPairs_119 : decode c0_Fs_listTwoPairs 119 = .ok (.return_, 1) := by decide +kernel
def b_Fs_listTwoPairs_95 (K : Nat → ClassId) (N : Nat) (k2 : Int32 → Int32 → fh_H → Option (fh_H)) (k14 : Int32 → Int32 → Int32 → fh_H → Option (fh_H)) (k25 : Int32 → Int32 → Int32 → Int32 → fh_H → Option (fh_H)) (k52 : Int32 → Int32 → Int32 → Int32 → Int32 → fh_H → Option (fh_H)) (o : Nat) (v1 : Int32) (v2 : Int32) (v3 : Int32) (v4 : Int32) (v5 : Int32) (h : fh_H) : Option (fh_H) :=
  (some (v5 + 1)).bind fun x1 => k52 v1 v2 v3 v4 x1 h
def b_Fs_listTwoPairs_78 (K : Nat → ClassId) (N : Nat) (k2 : Int32 → Int32 → fh_H → Option (fh_H)) (k14 : Int32 → Int32 → Int32 → fh_H → Option (fh_H)) (k25 : Int32 → Int32 → Int32 → Int32 → fh_H → Option (fh_H)) (k52 : Int32 → Int32 → Int32 → Int32 → Int32 → fh_H → Option (fh_H)) (o : Nat) (v1 : Int32) (v2 : Int32) (v3 : Int32) (v4 : Int32) (v5 : Int32) (h : fh_H) : Option (fh_H) :=
  (f_FF_pack K N v2 v3 v4 h).bind fun r1 => (f_FF_join K N r1.1 v5 r1.2).bind fun r2 => (fg_o r2.2 (some o) 2).bind fun o3 => (f_Fs_consider K N o3 v1 r2.1 r2.2).bind fun r4 => b_Fs_listTwoPairs_95 K N k2 k14 k25 k52 o v1 v2 v3 v4 v5 r4
def b_Fs_listTwoPairs_52 (K : Nat → ClassId) (N : Nat) (k2 : Int32 → Int32 → fh_H → Option (fh_H)) (k14 : Int32 → Int32 → Int32 → fh_H → Option (fh_H)) (k25 : Int32 → Int32 → Int32 → Int32 → fh_H → Option (fh_H)) (k52 : Int32 → Int32 → Int32 → Int32 → Int32 → fh_H → Option (fh_H)) (o : Nat) (v1 : Int32) (v2 : Int32) (v3 : Int32) (v4 : Int32) (v5 : Int32) (h : fh_H) : Option (fh_H) :=
  (fg_i h (some o) 2 7).bind fun x1 => if x1 ≤ v5 then ((some (v4 + 1)).bind fun x2 => k25 v1 v2 v3 x2 h) else (if v1 = 2 then ((f_FF_areApartPairs K N v2 v3 v4 v5 h).bind fun r3 => if r3.1 = 0 then (b_Fs_listTwoPairs_95 K N k2 k14 k25 k52 o v1 v2 v3 v4 v5 r3.2) else (b_Fs_listTwoPairs_78 K N k2 k14 k25 k52 o v1 v2 v3 v4 v5 r3.2)) else (b_Fs_listTwoPairs_78 K N k2 k14 k25 k52 o v1 v2 v3 v4 v5 h))
def l_Fs_listTwoPairs_52 (K : Nat → ClassId) (N : Nat) (k2 : Int32 → Int32 → fh_H → Option (fh_H)) (k14 : Int32 → Int32 → Int32 → fh_H → Option (fh_H)) (k25 : Int32 → Int32 → Int32 → Int32 → fh_H → Option (fh_H)) (o : Nat) : Nat → Int32 → Int32 → Int32 → Int32 → Int32 → fh_H → Option (fh_H)
  | 0, _, _, _, _, _, _ => none
  | n + 1, v1, v2, v3, v4, v5, h => b_Fs_listTwoPairs_52 K N k2 k14 k25 (l_Fs_listTwoPairs_52 K N k2 k14 k25 o n) o v1 v2 v3 v4 v5 h
def b_Fs_listTwoPairs_50 (K : Nat → ClassId) (N : Nat) (k2 : Int32 → Int32 → fh_H → Option (fh_H)) (k14 : Int32 → Int32 → Int32 → fh_H → Option (fh_H)) (k25 : Int32 → Int32 → Int32 → Int32 → fh_H → Option (fh_H)) (o : Nat) (v1 : Int32) (v2 : Int32) (v3 : Int32) (v4 : Int32) (w0 : Int32) (h : fh_H) : Option (fh_H) :=
  l_Fs_listTwoPairs_52 K N k2 k14 k25 o N v1 v2 v3 v4 w0 h
def b_Fs_listTwoPairs_25 (K : Nat → ClassId) (N : Nat) (k2 : Int32 → Int32 → fh_H → Option (fh_H)) (k14 : Int32 → Int32 → Int32 → fh_H → Option (fh_H)) (k25 : Int32 → Int32 → Int32 → Int32 → fh_H → Option (fh_H)) (o : Nat) (v1 : Int32) (v2 : Int32) (v3 : Int32) (v4 : Int32) (h : fh_H) : Option (fh_H) :=
  (fg_i h (some o) 2 7).bind fun x1 => if x1 ≤ v4 then ((some (v3 + 1)).bind fun x2 => k14 v1 v2 x2 h) else (if v4 = v2 then (b_Fs_listTwoPairs_50 K N k2 k14 k25 o v1 v2 v3 v4 (v3 + 1) h) else (b_Fs_listTwoPairs_50 K N k2 k14 k25 o v1 v2 v3 v4 (v4 + 1) h))
def l_Fs_listTwoPairs_25 (K : Nat → ClassId) (N : Nat) (k2 : Int32 → Int32 → fh_H → Option (fh_H)) (k14 : Int32 → Int32 → Int32 → fh_H → Option (fh_H)) (o : Nat) : Nat → Int32 → Int32 → Int32 → Int32 → fh_H → Option (fh_H)
  | 0, _, _, _, _, _ => none
  | n + 1, v1, v2, v3, v4, h => b_Fs_listTwoPairs_25 K N k2 k14 (l_Fs_listTwoPairs_25 K N k2 k14 o n) o v1 v2 v3 v4 h
def b_Fs_listTwoPairs_14 (K : Nat → ClassId) (N : Nat) (k2 : Int32 → Int32 → fh_H → Option (fh_H)) (k14 : Int32 → Int32 → Int32 → fh_H → Option (fh_H)) (o : Nat) (v1 : Int32) (v2 : Int32) (v3 : Int32) (h : fh_H) : Option (fh_H) :=
  (fg_i h (some o) 2 7).bind fun x1 => if x1 ≤ v3 then ((some (v2 + 1)).bind fun x2 => k2 v1 x2 h) else (l_Fs_listTwoPairs_25 K N k2 k14 o N v1 v2 v3 v2 h)
def l_Fs_listTwoPairs_14 (K : Nat → ClassId) (N : Nat) (k2 : Int32 → Int32 → fh_H → Option (fh_H)) (o : Nat) : Nat → Int32 → Int32 → Int32 → fh_H → Option (fh_H)
  | 0, _, _, _, _ => none
  | n + 1, v1, v2, v3, h => b_Fs_listTwoPairs_14 K N k2 (l_Fs_listTwoPairs_14 K N k2 o n) o v1 v2 v3 h
def b_Fs_listTwoPairs_2 (K : Nat → ClassId) (N : Nat) (k2 : Int32 → Int32 → fh_H → Option (fh_H)) (o : Nat) (v1 : Int32) (v2 : Int32) (h : fh_H) : Option (fh_H) :=
  (fg_i h (some o) 2 7).bind fun x1 => if x1 ≤ v2 then (some h) else ((some (v2 + 1)).bind fun x2 => l_Fs_listTwoPairs_14 K N k2 o N v1 v2 x2 h)
def l_Fs_listTwoPairs_2 (K : Nat → ClassId) (N : Nat) (o : Nat) : Nat → Int32 → Int32 → fh_H → Option (fh_H)
  | 0, _, _, _ => none
  | n + 1, v1, v2, h => b_Fs_listTwoPairs_2 K N (l_Fs_listTwoPairs_2 K N o n) o v1 v2 h
def f_Fs_listTwoPairs (K : Nat → ClassId) (N : Nat) (o : Nat) (a1 : Int32) (h0 : fh_H) : Option (fh_H) :=
  l_Fs_listTwoPairs_2 K N o N a1 0 h0
set_option maxHeartbeats 4000000 in
set_option maxRecDepth 100000 in
theorem c_Fs_listTwoPairs {l : Launch} {D : va_G} {K : Nat → ClassId} {t : Nat → Nat} {N : Nat} {o : Nat} {a1 : Int32} {h0 : fh_H} {res : fh_H} (hf : f_Fs_listTwoPairs K N o a1 h0 = some res) : fC l D K t y_Fs_listTwoPairs c0_Fs_listTwoPairs 6 none rm_Fs_listTwoPairs [.ref o, .int a1] h0 (none) res := by
  refine fh_body (by decide) (Nat.le_of_ble_eq_true rfl) ?_
  intro p e s m below meth c A ls S hr hk hnm hE hAe hI hl
  obtain ⟨hx, hb, hml, hown, hts⟩ := id S
  have hl : lv_has ls 6 [(0, va_rf (some o)), (1, .int a1)] := hl
  have L2 : ∀ (n2 : Nat) (v1 : Int32) (v2 : Int32) (h : fh_H) (H : Heap) (locs : List Loc) (ls : Array Slot), lv_has ls 6 [(0, va_rf (some o)), (1, .int v1), (2, .int v2)] → fh_I D classes A s.heap h H locs → l_Fs_listTwoPairs_2 K N o n2 v1 v2 h = some res → W p l e rm_Fs_listTwoPairs s m [.ref o, .int a1].toArray below meth c H locs 0 0 (MQ below (fh_Q D classes h0 s.heap.size (none) res) [.ref o, .int a1].toArray s 0 0 A) (F0 m 2 ls []) := by
    intro n2
    induction n2 with
    | zero =>
      intro v1 v2 h H locs ls hl hI hf
      exact fh_no hf
    | succ n2 ih2 =>
      have L14 : ∀ (n14 : Nat) (v1 : Int32) (v2 : Int32) (v3 : Int32) (h : fh_H) (H : Heap) (locs : List Loc) (ls : Array Slot), lv_has ls 6 [(0, va_rf (some o)), (1, .int v1), (2, .int v2), (3, .int v3)] → fh_I D classes A s.heap h H locs → l_Fs_listTwoPairs_14 K N (l_Fs_listTwoPairs_2 K N o n2) o n14 v1 v2 v3 h = some res → W p l e rm_Fs_listTwoPairs s m [.ref o, .int a1].toArray below meth c H locs 0 0 (MQ below (fh_Q D classes h0 s.heap.size (none) res) [.ref o, .int a1].toArray s 0 0 A) (F0 m 14 ls []) := by
        intro n14
        induction n14 with
        | zero =>
          intro v1 v2 v3 h H locs ls hl hI hf
          exact fh_no hf
        | succ n14 ih14 =>
          have L25 : ∀ (n25 : Nat) (v1 : Int32) (v2 : Int32) (v3 : Int32) (v4 : Int32) (h : fh_H) (H : Heap) (locs : List Loc) (ls : Array Slot), lv_has ls 6 [(0, va_rf (some o)), (1, .int v1), (2, .int v2), (3, .int v3), (4, .int v4)] → fh_I D classes A s.heap h H locs → l_Fs_listTwoPairs_25 K N (l_Fs_listTwoPairs_2 K N o n2) (l_Fs_listTwoPairs_14 K N (l_Fs_listTwoPairs_2 K N o n2) o n14) o n25 v1 v2 v3 v4 h = some res → W p l e rm_Fs_listTwoPairs s m [.ref o, .int a1].toArray below meth c H locs 0 0 (MQ below (fh_Q D classes h0 s.heap.size (none) res) [.ref o, .int a1].toArray s 0 0 A) (F0 m 25 ls []) := by
            intro n25
            induction n25 with
            | zero =>
              intro v1 v2 v3 v4 h H locs ls hl hI hf
              exact fh_no hf
            | succ n25 ih25 =>
              have L52 : ∀ (n52 : Nat) (v1 : Int32) (v2 : Int32) (v3 : Int32) (v4 : Int32) (v5 : Int32) (h : fh_H) (H : Heap) (locs : List Loc) (ls : Array Slot), lv_has ls 6 [(0, va_rf (some o)), (1, .int v1), (2, .int v2), (3, .int v3), (4, .int v4), (5, .int v5)] → fh_I D classes A s.heap h H locs → l_Fs_listTwoPairs_52 K N (l_Fs_listTwoPairs_2 K N o n2) (l_Fs_listTwoPairs_14 K N (l_Fs_listTwoPairs_2 K N o n2) o n14) (l_Fs_listTwoPairs_25 K N (l_Fs_listTwoPairs_2 K N o n2) (l_Fs_listTwoPairs_14 K N (l_Fs_listTwoPairs_2 K N o n2) o n14) o n25) o n52 v1 v2 v3 v4 v5 h = some res → W p l e rm_Fs_listTwoPairs s m [.ref o, .int a1].toArray below meth c H locs 0 0 (MQ below (fh_Q D classes h0 s.heap.size (none) res) [.ref o, .int a1].toArray s 0 0 A) (F0 m 52 ls []) := by
                intro n52
                induction n52 with
                | zero =>
                  intro v1 v2 v3 v4 v5 h H locs ls hl hI hf
                  exact fh_no hf
                | succ n52 ih52 =>
                  have B95 : ∀ (v1 : Int32) (v2 : Int32) (v3 : Int32) (v4 : Int32) (v5 : Int32) (h : fh_H) (H : Heap) (locs : List Loc) (ls : Array Slot), lv_has ls 6 [(0, va_rf (some o)), (1, .int v1), (2, .int v2), (3, .int v3), (4, .int v4), (5, .int v5)] → fh_I D classes A s.heap h H locs → b_Fs_listTwoPairs_95 K N (l_Fs_listTwoPairs_2 K N o n2) (l_Fs_listTwoPairs_14 K N (l_Fs_listTwoPairs_2 K N o n2) o n14) (l_Fs_listTwoPairs_25 K N (l_Fs_listTwoPairs_2 K N o n2) (l_Fs_listTwoPairs_14 K N (l_Fs_listTwoPairs_2 K N o n2) o n14) o n25) (l_Fs_listTwoPairs_52 K N (l_Fs_listTwoPairs_2 K N o n2) (l_Fs_listTwoPairs_14 K N (l_Fs_listTwoPairs_2 K N o n2) o n14) (l_Fs_listTwoPairs_25 K N (l_Fs_listTwoPairs_2 K N o n2) (l_Fs_listTwoPairs_14 K N (l_Fs_listTwoPairs_2 K N o n2) o n14) o n25) o n52) o v1 v2 v3 v4 v5 h = some res → W p l e rm_Fs_listTwoPairs s m [.ref o, .int a1].toArray below meth c H locs 0 0 (MQ below (fh_Q D classes h0 s.heap.size (none) res) [.ref o, .int a1].toArray s 0 0 A) (F0 m 95 ls []) := by
                    intro v1 v2 v3 v4 v5 h H locs ls hl hI hf
                    unfold b_Fs_listTwoPairs_95 at hf
                    obtain ⟨x1, e_x1, hf⟩ := fh_b hf
                    refine lv_iinc (v := x1) (lv' := [(5, .int x1), (0, va_rf (some o)), (1, .int v1), (2, .int v2), (3, .int v3), (4, .int v4)]) hx hb d_Fs_listTwoPairs_95 hl (k := 5) rfl (by rw [fh_qe e_x1]; rfl) (by decide) rfl (fun ls hl => ?_)
                    refine lv_goto (tgt := 52) hx hb d_Fs_listTwoPairs_98 (by decide) ?_
                    exact ih52 v1 v2 v3 v4 x1 h _ _ _ (lv_sub hl [1, 2, 3, 4, 5, 0] rfl) hI hf
                  have B78 : ∀ (v1 : Int32) (v2 : Int32) (v3 : Int32) (v4 : Int32) (v5 : Int32) (h : fh_H) (H : Heap) (locs : List Loc) (ls : Array Slot), lv_has ls 6 [(0, va_rf (some o)), (1, .int v1), (2, .int v2), (3, .int v3), (4, .int v4), (5, .int v5)] → fh_I D classes A s.heap h H locs → b_Fs_listTwoPairs_78 K N (l_Fs_listTwoPairs_2 K N o n2) (l_Fs_listTwoPairs_14 K N (l_Fs_listTwoPairs_2 K N o n2) o n14) (l_Fs_listTwoPairs_25 K N (l_Fs_listTwoPairs_2 K N o n2) (l_Fs_listTwoPairs_14 K N (l_Fs_listTwoPairs_2 K N o n2) o n14) o n25) (l_Fs_listTwoPairs_52 K N (l_Fs_listTwoPairs_2 K N o n2) (l_Fs_listTwoPairs_14 K N (l_Fs_listTwoPairs_2 K N o n2) o n14) (l_Fs_listTwoPairs_25 K N (l_Fs_listTwoPairs_2 K N o n2) (l_Fs_listTwoPairs_14 K N (l_Fs_listTwoPairs_2 K N o n2) o n14) o n25) o n52) o v1 v2 v3 v4 v5 h = some res → W p l e rm_Fs_listTwoPairs s m [.ref o, .int a1].toArray below meth c H locs 0 0 (MQ below (fh_Q D classes h0 s.heap.size (none) res) [.ref o, .int a1].toArray s 0 0 A) (F0 m 78 ls []) := by
                    intro v1 v2 v3 v4 v5 h H locs ls hl hI hf
                    unfold b_Fs_listTwoPairs_78 at hf
                    refine fh_aload_n S d_Fs_listTwoPairs_78 rfl (lv_at hl 0 rfl) ?_
                    refine lv_iload_n hx hb d_Fs_listTwoPairs_79 rfl (lv_at hl 1 rfl) ?_
                    refine lv_iload_n hx hb d_Fs_listTwoPairs_80 rfl (lv_at hl 2 rfl) ?_
                    refine lv_iload_n hx hb d_Fs_listTwoPairs_81 rfl (lv_at hl 3 rfl) ?_
                    refine lv_iload hx hb d_Fs_listTwoPairs_82 (lv_at hl 4 rfl) ?_
                    obtain ⟨r1, e_r1, hf⟩ := fh_b hf
                    refine fh_callSN (As := [.int v2, .int v3, .int v4]) (rest := [.int v1, va_rf (some o)]) S fT_good hE hI (c_FF_pack e_r1) fy_FF_pack fst_FF_pack kn_3 ⟨rfl, rfl⟩ ⟨Nat.le_of_ble_eq_true rfl, Nat.le_of_ble_eq_true rfl⟩ ⟨Nat.zero_le _, Nat.zero_le _⟩ rfl hl.1 rfl (Nat.le_of_ble_eq_true rfl) d_Fs_listTwoPairs_84 (fun H locs hI => ?_)
                    refine lv_iload hx hb d_Fs_listTwoPairs_87 (lv_at hl 5 rfl) ?_
                    obtain ⟨r2, e_r2, hf⟩ := fh_b hf
                    refine fh_callSN (As := [.int r1.1, .int v5]) (rest := [.int v1, va_rf (some o)]) S fT_good hE hI (c_FF_join e_r2) fy_FF_join fst_FF_join kn_8 ⟨rfl, rfl⟩ ⟨Nat.le_of_ble_eq_true rfl, Nat.le_of_ble_eq_true rfl⟩ ⟨Nat.zero_le _, Nat.zero_le _⟩ rfl hl.1 rfl (Nat.le_of_ble_eq_true rfl) d_Fs_listTwoPairs_89 (fun H locs hI => ?_)
                    obtain ⟨o3, e_o3, hf⟩ := fh_b hf
                    obtain ⟨r4, e_r4, hf⟩ := fh_b hf
                    refine fh_callV (As := [.int v1, .int r2.1]) (rest := []) S fT_good hE hI e_o3 rfl (c_Fs_consider e_r4) fy_Fs_consider fst_Fs_consider k_104 ⟨rfl, rfl⟩ ⟨Nat.le_of_ble_eq_true rfl, Nat.le_of_ble_eq_true rfl⟩ ⟨Nat.zero_le _, Nat.zero_le _⟩ rfl hl.1 rfl (Nat.le_of_ble_eq_true rfl) d_Fs_listTwoPairs_92 (fun H locs hI => ?_)
                    exact B95 v1 v2 v3 v4 v5 r4 _ _ _ (lv_sub hl [0, 1, 2, 3, 4, 5] rfl) hI hf
                  intro v1 v2 v3 v4 v5 h H locs ls hl hI hf
                  have hf : b_Fs_listTwoPairs_52 K N (l_Fs_listTwoPairs_2 K N o n2) (l_Fs_listTwoPairs_14 K N (l_Fs_listTwoPairs_2 K N o n2) o n14) (l_Fs_listTwoPairs_25 K N (l_Fs_listTwoPairs_2 K N o n2) (l_Fs_listTwoPairs_14 K N (l_Fs_listTwoPairs_2 K N o n2) o n14) o n25) (l_Fs_listTwoPairs_52 K N (l_Fs_listTwoPairs_2 K N o n2) (l_Fs_listTwoPairs_14 K N (l_Fs_listTwoPairs_2 K N o n2) o n14) (l_Fs_listTwoPairs_25 K N (l_Fs_listTwoPairs_2 K N o n2) (l_Fs_listTwoPairs_14 K N (l_Fs_listTwoPairs_2 K N o n2) o n14) o n25) o n52) o v1 v2 v3 v4 v5 h = some res := hf
                  unfold b_Fs_listTwoPairs_52 at hf
                  refine lv_iload hx hb d_Fs_listTwoPairs_52 (lv_at hl 5 rfl) ?_
                  refine fh_aload_n S d_Fs_listTwoPairs_54 rfl (lv_at hl 0 rfl) ?_
                  obtain ⟨x1, e_x1, hf⟩ := fh_b hf
                  refine fh_geti S hE.1 hI e_x1 (hc := rfl) (hin := in_2) (by decide) (hts _ k_38) d_Fs_listTwoPairs_55 ?_
                  refine lv_icmp_ge (tgt := 101) hx hb d_Fs_listTwoPairs_58 (by decide) (fun c_58 => ?_) (fun c_58 => ?_)
                  · replace hf := fh_t c_58 hf
                    obtain ⟨x2, e_x2, hf⟩ := fh_b hf
                    refine lv_iinc (v := x2) (lv' := [(4, .int x2), (0, va_rf (some o)), (1, .int v1), (2, .int v2), (3, .int v3), (5, .int v5)]) hx hb d_Fs_listTwoPairs_101 hl (k := 4) rfl (by rw [fh_qe e_x2]; rfl) (by decide) rfl (fun ls hl => ?_)
                    refine lv_goto (tgt := 25) hx hb d_Fs_listTwoPairs_104 (by decide) ?_
                    exact ih25 v1 v2 v3 x2 h _ _ _ (lv_sub hl [1, 2, 3, 4, 0] rfl) hI hf
                  · replace hf := fh_f c_58 hf
                    refine lv_iload_n hx hb d_Fs_listTwoPairs_61 rfl (lv_at hl 1 rfl) ?_
                    refine lv_iconst (v := 2) hx hb d_Fs_listTwoPairs_62 (by decide) ?_
                    refine lv_icmp_ne (tgt := 78) hx hb d_Fs_listTwoPairs_63 (by decide) (fun c_63 => ?_) (fun c_63 => ?_)
                    · replace hf := fh_f c_63 hf
                      exact B78 v1 v2 v3 v4 v5 h _ _ _ (lv_sub hl [0, 1, 2, 3, 4, 5] rfl) hI hf
                    · replace hf := fh_t c_63 hf
                      refine lv_iload_n hx hb d_Fs_listTwoPairs_66 rfl (lv_at hl 2 rfl) ?_
                      refine lv_iload_n hx hb d_Fs_listTwoPairs_67 rfl (lv_at hl 3 rfl) ?_
                      refine lv_iload hx hb d_Fs_listTwoPairs_68 (lv_at hl 4 rfl) ?_
                      refine lv_iload hx hb d_Fs_listTwoPairs_70 (lv_at hl 5 rfl) ?_
                      obtain ⟨r3, e_r3, hf⟩ := fh_b hf
                      refine fh_callSN (As := [.int v2, .int v3, .int v4, .int v5]) (rest := []) S fT_good hE hI (c_FF_areApartPairs e_r3) fy_FF_areApartPairs fst_FF_areApartPairs kn_9 ⟨rfl, rfl⟩ ⟨Nat.le_of_ble_eq_true rfl, Nat.le_of_ble_eq_true rfl⟩ ⟨Nat.zero_le _, Nat.zero_le _⟩ rfl hl.1 rfl (Nat.le_of_ble_eq_true rfl) d_Fs_listTwoPairs_72 (fun H locs hI => ?_)
                      refine lv_if_eq (tgt := 95) hx hb d_Fs_listTwoPairs_75 (by decide) (fun c_75 => ?_) (fun c_75 => ?_)
                      · replace hf := fh_t c_75 hf
                        exact B95 v1 v2 v3 v4 v5 r3.2 _ _ _ (lv_sub hl [0, 1, 2, 3, 4, 5] rfl) hI hf
                      · replace hf := fh_f c_75 hf
                        exact B78 v1 v2 v3 v4 v5 r3.2 _ _ _ (lv_sub hl [0, 1, 2, 3, 4, 5] rfl) hI hf
              have B50 : ∀ (v1 : Int32) (v2 : Int32) (v3 : Int32) (v4 : Int32) (w0 : Int32) (h : fh_H) (H : Heap) (locs : List Loc) (ls : Array Slot), lv_has ls 6 [(0, va_rf (some o)), (1, .int v1), (2, .int v2), (3, .int v3), (4, .int v4)] → fh_I D classes A s.heap h H locs → b_Fs_listTwoPairs_50 K N (l_Fs_listTwoPairs_2 K N o n2) (l_Fs_listTwoPairs_14 K N (l_Fs_listTwoPairs_2 K N o n2) o n14) (l_Fs_listTwoPairs_25 K N (l_Fs_listTwoPairs_2 K N o n2) (l_Fs_listTwoPairs_14 K N (l_Fs_listTwoPairs_2 K N o n2) o n14) o n25) o v1 v2 v3 v4 w0 h = some res → W p l e rm_Fs_listTwoPairs s m [.ref o, .int a1].toArray below meth c H locs 0 0 (MQ below (fh_Q D classes h0 s.heap.size (none) res) [.ref o, .int a1].toArray s 0 0 A) (F0 m 50 ls [.int w0]) := by
                intro v1 v2 v3 v4 w0 h H locs ls hl hI hf
                unfold b_Fs_listTwoPairs_50 at hf
                refine lv_istore (lv' := [(5, .int w0), (0, va_rf (some o)), (1, .int v1), (2, .int v2), (3, .int v3), (4, .int v4)]) hx hb d_Fs_listTwoPairs_50 hl (by decide) rfl (fun ls hl => ?_)
                exact L52 N v1 v2 v3 v4 w0 h _ _ _ (lv_sub hl [1, 2, 3, 4, 5, 0] rfl) hI hf
              intro v1 v2 v3 v4 h H locs ls hl hI hf
              have hf : b_Fs_listTwoPairs_25 K N (l_Fs_listTwoPairs_2 K N o n2) (l_Fs_listTwoPairs_14 K N (l_Fs_listTwoPairs_2 K N o n2) o n14) (l_Fs_listTwoPairs_25 K N (l_Fs_listTwoPairs_2 K N o n2) (l_Fs_listTwoPairs_14 K N (l_Fs_listTwoPairs_2 K N o n2) o n14) o n25) o v1 v2 v3 v4 h = some res := hf
              unfold b_Fs_listTwoPairs_25 at hf
              refine lv_iload hx hb d_Fs_listTwoPairs_25 (lv_at hl 4 rfl) ?_
              refine fh_aload_n S d_Fs_listTwoPairs_27 rfl (lv_at hl 0 rfl) ?_
              obtain ⟨x1, e_x1, hf⟩ := fh_b hf
              refine fh_geti S hE.1 hI e_x1 (hc := rfl) (hin := in_2) (by decide) (hts _ k_38) d_Fs_listTwoPairs_28 ?_
              refine lv_icmp_ge (tgt := 107) hx hb d_Fs_listTwoPairs_31 (by decide) (fun c_31 => ?_) (fun c_31 => ?_)
              · replace hf := fh_t c_31 hf
                obtain ⟨x2, e_x2, hf⟩ := fh_b hf
                refine lv_iinc (v := x2) (lv' := [(3, .int x2), (0, va_rf (some o)), (1, .int v1), (2, .int v2), (4, .int v4)]) hx hb d_Fs_listTwoPairs_107 hl (k := 3) rfl (by rw [fh_qe e_x2]; rfl) (by decide) rfl (fun ls hl => ?_)
                refine lv_goto (tgt := 14) hx hb d_Fs_listTwoPairs_110 (by decide) ?_
                exact ih14 v1 v2 x2 h _ _ _ (lv_sub hl [1, 2, 3, 0] rfl) hI hf
              · replace hf := fh_f c_31 hf
                refine lv_iload hx hb d_Fs_listTwoPairs_34 (lv_at hl 4 rfl) ?_
                refine lv_iload_n hx hb d_Fs_listTwoPairs_36 rfl (lv_at hl 2 rfl) ?_
                refine lv_icmp_ne (tgt := 46) hx hb d_Fs_listTwoPairs_37 (by decide) (fun c_37 => ?_) (fun c_37 => ?_)
                · replace hf := fh_f c_37 hf
                  refine lv_iload hx hb d_Fs_listTwoPairs_46 (lv_at hl 4 rfl) ?_
                  refine lv_iconst (v := 1) hx hb d_Fs_listTwoPairs_48 (by decide) ?_
                  refine lv_iadd hx hb d_Fs_listTwoPairs_49 ?_
                  exact B50 v1 v2 v3 v4 (v4 + 1) h _ _ _ (lv_sub hl [0, 1, 2, 3, 4] rfl) hI hf
                · replace hf := fh_t c_37 hf
                  refine lv_iload_n hx hb d_Fs_listTwoPairs_40 rfl (lv_at hl 3 rfl) ?_
                  refine lv_iconst (v := 1) hx hb d_Fs_listTwoPairs_41 (by decide) ?_
                  refine lv_iadd hx hb d_Fs_listTwoPairs_42 ?_
                  refine lv_goto (tgt := 50) hx hb d_Fs_listTwoPairs_43 (by decide) ?_
                  exact B50 v1 v2 v3 v4 (v3 + 1) h _ _ _ (lv_sub hl [0, 1, 2, 3, 4] rfl) hI hf
          intro v1 v2 v3 h H locs ls hl hI hf
          have hf : b_Fs_listTwoPairs_14 K N (l_Fs_listTwoPairs_2 K N o n2) (l_Fs_listTwoPairs_14 K N (l_Fs_listTwoPairs_2 K N o n2) o n14) o v1 v2 v3 h = some res := hf
          unfold b_Fs_listTwoPairs_14 at hf
          refine lv_iload_n hx hb d_Fs_listTwoPairs_14 rfl (lv_at hl 3 rfl) ?_
          refine fh_aload_n S d_Fs_listTwoPairs_15 rfl (lv_at hl 0 rfl) ?_
          obtain ⟨x1, e_x1, hf⟩ := fh_b hf
          refine fh_geti S hE.1 hI e_x1 (hc := rfl) (hin := in_2) (by decide) (hts _ k_38) d_Fs_listTwoPairs_16 ?_
          refine lv_icmp_ge (tgt := 113) hx hb d_Fs_listTwoPairs_19 (by decide) (fun c_19 => ?_) (fun c_19 => ?_)
          · replace hf := fh_t c_19 hf
            obtain ⟨x2, e_x2, hf⟩ := fh_b hf
            refine lv_iinc (v := x2) (lv' := [(2, .int x2), (0, va_rf (some o)), (1, .int v1), (3, .int v3)]) hx hb d_Fs_listTwoPairs_113 hl (k := 2) rfl (by rw [fh_qe e_x2]; rfl) (by decide) rfl (fun ls hl => ?_)
            refine lv_goto (tgt := 2) hx hb d_Fs_listTwoPairs_116 (by decide) ?_
            exact ih2 v1 x2 h _ _ _ (lv_sub hl [1, 2, 0] rfl) hI hf
          · replace hf := fh_f c_19 hf
            refine lv_iload_n hx hb d_Fs_listTwoPairs_22 rfl (lv_at hl 2 rfl) ?_
            refine lv_istore (lv' := [(4, .int v2), (0, va_rf (some o)), (1, .int v1), (2, .int v2), (3, .int v3)]) hx hb d_Fs_listTwoPairs_23 hl (by decide) rfl (fun ls hl => ?_)
            exact L25 N v1 v2 v3 v2 h _ _ _ (lv_sub hl [1, 2, 3, 4, 0] rfl) hI hf
      intro v1 v2 h H locs ls hl hI hf
      have hf : b_Fs_listTwoPairs_2 K N (l_Fs_listTwoPairs_2 K N o n2) o v1 v2 h = some res := hf
      unfold b_Fs_listTwoPairs_2 at hf
      refine lv_iload_n hx hb d_Fs_listTwoPairs_2 rfl (lv_at hl 2 rfl) ?_
      refine fh_aload_n S d_Fs_listTwoPairs_3 rfl (lv_at hl 0 rfl) ?_
      obtain ⟨x1, e_x1, hf⟩ := fh_b hf
      refine fh_geti S hE.1 hI e_x1 (hc := rfl) (hin := in_2) (by decide) (hts _ k_38) d_Fs_listTwoPairs_4 ?_
      refine lv_icmp_ge (tgt := 119) hx hb d_Fs_listTwoPairs_7 (by decide) (fun c_7 => ?_) (fun c_7 => ?_)
      · replace hf := fh_t c_7 hf
        obtain rfl := Option.some.inj hf
        exact fh_vret S hr hk hAe hI d_Fs_listTwoPairs_119
      · replace hf := fh_f c_7 hf
        refine lv_iload_n hx hb d_Fs_listTwoPairs_10 rfl (lv_at hl 2 rfl) ?_
        refine lv_iconst (v := 1) hx hb d_Fs_listTwoPairs_11 (by decide) ?_
        refine lv_iadd hx hb d_Fs_listTwoPairs_12 ?_
        obtain ⟨x2, e_x2, hf⟩ := fh_b hf
        refine fh_topi e_x2 ?_
        refine lv_istore_n (lv' := [(3, .int x2), (0, va_rf (some o)), (1, .int v1), (2, .int v2)]) hx hb d_Fs_listTwoPairs_13 rfl hl (by decide) rfl (fun ls hl => ?_)
        exact L14 N v1 v2 x2 h _ _ _ (lv_sub hl [1, 2, 3, 0] rfl) hI hf
  unfold f_Fs_listTwoPairs at hf
  refine lv_iconst (v := 0) hx hb d_Fs_listTwoPairs_0 (by decide) ?_
  refine lv_istore_n (lv' := [(2, .int 0), (0, va_rf (some o)), (1, .int a1)]) hx hb d_Fs_listTwoPairs_1 rfl hl (by decide) rfl (fun ls hl => ?_)
  exact L2 N a1 0 h0 _ _ _ (lv_sub hl [1, 2, 0] rfl) hI hf
theorem d_Fs_list_0 : decode c0_Fs_list 0 = .ok (.aload_n 0, 1) := by decide +kernel
theorem d_Fs_list_1 : decode c0_Fs_list 1 = .ok (.iload_n 1, 1) := by decide +kernel
theorem d_Fs_list_2 : decode c0_Fs_list 2 = .ok (.invokevirtual 62, 3) := by decide +kernel
theorem d_Fs_list_5 : decode c0_Fs_list 5 = .ok (.ifCond .eq 114, 3) := by decide +kernel
theorem d_Fs_list_8 : decode c0_Fs_list 8 = .ok (.aload_n 0, 1) := by decide +kernel
theorem d_Fs_list_9 : decode c0_Fs_list 9 = .ok (.invokevirtual 55, 3) := by decide +kernel
theorem d_Fs_list_12 : decode c0_Fs_list 12 = .ok (.aload_n 0, 1) := by decide +kernel
theorem d_Fs_list_13 : decode c0_Fs_list 13 = .ok (.getfield 20, 3) := by decide +kernel
theorem d_Fs_list_16 : decode c0_Fs_list 16 = .ok (.iload_n 1, 1) := by decide +kernel
theorem d_Fs_list_17 : decode c0_Fs_list 17 = .ok (.aaload, 1) := by decide +kernel
theorem d_Fs_list_18 : decode c0_Fs_list 18 = .ok (.iconst 0, 1) := by decide +kernel
theorem d_Fs_list_19 : decode c0_Fs_list 19 = .ok (.putfield 66, 3) := by decide +kernel
theorem d_Fs_list_22 : decode c0_Fs_list 22 = .ok (.iload_n 1, 1) := by decide +kernel
theorem d_Fs_list_23 : decode c0_Fs_list 23 = .ok (.tableswitch 91 0 8 #[49, 56, 91, 91, 91, 63, 70, 77, 84], 49) := by decide +kernel
theorem d_Fs_list_72 : decode c0_Fs_list 72 = .ok (.aload_n 0, 1) := by decide +kernel
theorem d_Fs_list_73 : decode c0_Fs_list 73 = .ok (.invokevirtual 69, 3) := by decide +kernel
theorem d_Fs_list_76 : decode c0_Fs_list 76 = .ok (.goto 43, 3) := by decide +kernel
theorem d_Fs_list_79 : decode c0_Fs_list 79 = .ok (.aload_n 0, 1) := by decide +kernel
theorem d_Fs_list_80 : decode c0_Fs_list 80 = .ok (.invokevirtual 72, 3) := by decide +kernel
theorem d_Fs_list_83 : decode c0_Fs_list 83 = .ok (.goto 36, 3) := by decide +kernel
theorem d_Fs_list_86 : decode c0_Fs_list 86 = .ok (.aload_n 0, 1) := by decide +kernel
theorem d_Fs_list_87 : decode c0_Fs_list 87 = .ok (.invokevirtual 75, 3) := by decide +kernel
theorem d_Fs_list_90 : decode c0_Fs_list 90 = .ok (.goto 29, 3) := by decide +kernel
theorem d_Fs_list_93 : decode c0_Fs_list 93 = .ok (.aload_n 0, 1) := by decide +kernel
theorem d_Fs_list_94 : decode c0_Fs_list 94 = .ok (.invokevirtual 78, 3) := by decide +kernel
theorem d_Fs_list_97 : decode c0_Fs_list 97 = .ok (.goto 22, 3) := by decide +kernel
theorem d_Fs_list_100 : decode c0_Fs_list 100 = .ok (.aload_n 0, 1) := by decide +kernel
theorem d_Fs_list_101 : decode c0_Fs_list 101 = .ok (.invokevirtual 81, 3) := by decide +kernel
theorem d_Fs_list_104 : decode c0_Fs_list 104 = .ok (.goto 15, 3) := by decide +kernel
theorem d_Fs_list_107 : decode c0_Fs_list 107 = .ok (.aload_n 0, 1) := by decide +kernel
theorem d_Fs_list_108 : decode c0_Fs_list 108 = .ok (.invokevirtual 84, 3) := by decide +kernel
theorem d_Fs_list_111 : decode c0_Fs_list 111 = .ok (.goto 8, 3) := by decide +kernel
theorem d_Fs_list_114 : decode c0_Fs_list 114 = .ok (.aload_n 0, 1) := by decide +kernel
theorem d_Fs_list_115 : decode c0_Fs_list 115 = .ok (.iload_n 1, 1) := by decide +kernel
theorem d_Fs_list_116 : decode c0_Fs_list 116 = .ok (.invokevirtual 87, 3) := by decide +kernel
theorem d_Fs_list_119 : decode c0_Fs_list 119 = .ok (.aload_n 0, 1) := by decide +kernel
theorem d_Fs_list_120 : decode c0_Fs_list 120 = .ok (.getfield 20, 3) := by decide +kernel
theorem d_Fs_list_123 : decode c0_Fs_list 123 = .ok (.iload_n 1, 1) := by decide +kernel
theorem d_Fs_list_124 : decode c0_Fs_list 124 = .ok (.aaload, 1) := by decide +kernel
theorem d_Fs_list_125 : decode c0_Fs_list 125 = .ok (.areturn, 1) := by decide +kernel
def b_Fs_list_119 (K : Nat → ClassId) (N : Nat) (o : Nat) (v1 : Int32) (h : fh_H) : Option (Option Nat × fh_H) :=
  (fg_a h (some o) 2 1).bind fun x1 => (fa_a (K 4) h x1 v1).bind fun x2 => some (x2, h)
def f_Fs_list (K : Nat → ClassId) (N : Nat) (o : Nat) (a1 : Int32) (h0 : fh_H) : Option (Option Nat × fh_H) :=
  (fg_o h0 (some o) 2).bind fun o1 => (f_Fs_isNew K N o1 a1 h0).bind fun r2 => if r2.1 = 0 then (b_Fs_list_119 K N o a1 r2.2) else ((fg_o r2.2 (some o) 2).bind fun o3 => (f_Fs_findLeads K N o3 r2.2).bind fun r4 => (fg_a r4 (some o) 2 1).bind fun x5 => (fa_a (K 4) r4 x5 a1).bind fun x6 => (fp_v r4 x6 5 1 (.int 0)).bind fun h7 => if a1 = 0 then ((fg_o h7 (some o) 2).bind fun o10 => (f_Fs_listPairs K N o10 h7).bind fun r11 => b_Fs_list_119 K N o a1 r11) else (if a1 = 1 then ((fg_o h7 (some o) 2).bind fun o12 => (f_Fs_listTriples K N o12 h7).bind fun r13 => b_Fs_list_119 K N o a1 r13) else (if a1 = 2 then ((fg_o h7 (some o) 2).bind fun o14 => (f_Fs_listTwoPairs K N o14 a1 h7).bind fun r15 => b_Fs_list_119 K N o a1 r15) else (if a1 = 3 then ((fg_o h7 (some o) 2).bind fun o16 => (f_Fs_listTwoPairs K N o16 a1 h7).bind fun r17 => b_Fs_list_119 K N o a1 r17) else (if a1 = 4 then ((fg_o h7 (some o) 2).bind fun o18 => (f_Fs_listTwoPairs K N o18 a1 h7).bind fun r19 => b_Fs_list_119 K N o a1 r19) else (if a1 = 5 then ((fg_o h7 (some o) 2).bind fun o20 => (f_Fs_listFours K N o20 h7).bind fun r21 => b_Fs_list_119 K N o a1 r21) else (if a1 = 6 then ((fg_o h7 (some o) 2).bind fun o22 => (f_Fs_listMiddles K N o22 h7).bind fun r23 => b_Fs_list_119 K N o a1 r23) else (if a1 = 7 then ((fg_o h7 (some o) 2).bind fun o24 => (f_Fs_listAreas K N o24 h7).bind fun r25 => b_Fs_list_119 K N o a1 r25) else (if a1 = 8 then ((fg_o h7 (some o) 2).bind fun o26 => (f_Fs_listRatios K N o26 h7).bind fun r27 => b_Fs_list_119 K N o a1 r27) else ((fg_o h7 (some o) 2).bind fun o8 => (f_Fs_listTwoPairs K N o8 a1 h7).bind fun r9 => b_Fs_list_119 K N o a1 r9))))))))))
set_option maxHeartbeats 4000000 in
set_option maxRecDepth 100000 in
theorem c_Fs_list {l : Launch} {D : va_G} {K : Nat → ClassId} {t : Nat → Nat} {N : Nat} {o : Nat} {a1 : Int32} {h0 : fh_H} {res : Option Nat × fh_H} (hf : f_Fs_list K N o a1 h0 = some res) : fC l D K t y_Fs_list c0_Fs_list 2 (some (.object "FactFinder$IntList")) rm_Fs_list [.ref o, .int a1] h0 (some (va_rf res.1)) res.2 := by
  refine fh_body (by decide) (Nat.le_of_ble_eq_true rfl) ?_
  intro p e s m below meth c A ls S hr hk hnm hE hAe hI hl
  obtain ⟨hx, hb, hml, hown, hts⟩ := id S
  have hl : lv_has ls 2 [(0, va_rf (some o)), (1, .int a1)] := hl
  have B119 : ∀ (v1 : Int32) (h : fh_H) (H : Heap) (locs : List Loc) (ls : Array Slot), lv_has ls 2 [(0, va_rf (some o)), (1, .int v1)] → fh_I D classes A s.heap h H locs → b_Fs_list_119 K N o v1 h = some res → W p l e rm_Fs_list s m [.ref o, .int a1].toArray below meth c H locs 0 0 (MQ below (fh_Q D classes h0 s.heap.size (some (va_rf res.1)) res.2) [.ref o, .int a1].toArray s 0 0 A) (F0 m 119 ls []) := by
    intro v1 h H locs ls hl hI hf
    unfold b_Fs_list_119 at hf
    refine fh_aload_n S d_Fs_list_119 rfl (lv_at hl 0 rfl) ?_
    obtain ⟨x1, e_x1, hf⟩ := fh_b hf
    refine fh_geta S hE.1 hI e_x1 (hc := rfl) (hin := in_2) (by decide) (hts _ k_101) d_Fs_list_120 ?_
    refine lv_iload_n hx hb d_Fs_list_123 rfl (lv_at hl 1 rfl) ?_
    obtain ⟨x2, e_x2, hf⟩ := fh_b hf
    refine fh_aald S hE.1 hI 4 rfl e_x2 d_Fs_list_124 ?_
    obtain rfl := Option.some.inj hf
    exact fh_aret S hr (Or.inl ⟨_, rfl⟩) hk hAe hI d_Fs_list_125
  unfold f_Fs_list at hf
  refine fh_aload_n S d_Fs_list_0 rfl (lv_at hl 0 rfl) ?_
  refine lv_iload_n hx hb d_Fs_list_1 rfl (lv_at hl 1 rfl) ?_
  obtain ⟨o1, e_o1, hf⟩ := fh_b hf
  obtain ⟨r2, e_r2, hf⟩ := fh_b hf
  refine fh_callV (As := [.int a1]) (rest := []) S fT_good hE hI e_o1 rfl (c_Fs_isNew e_r2) fy_Fs_isNew fst_Fs_isNew k_62 ⟨rfl, rfl⟩ ⟨Nat.le_of_ble_eq_true rfl, Nat.le_of_ble_eq_true rfl⟩ ⟨Nat.zero_le _, Nat.zero_le _⟩ rfl hl.1 rfl (Nat.le_of_ble_eq_true rfl) d_Fs_list_2 (fun H locs hI => ?_)
  refine lv_if_eq (tgt := 119) hx hb d_Fs_list_5 (by decide) (fun c_5 => ?_) (fun c_5 => ?_)
  · replace hf := fh_t c_5 hf
    exact B119 a1 r2.2 _ _ _ (lv_sub hl [0, 1] rfl) hI hf
  · replace hf := fh_f c_5 hf
    refine fh_aload_n S d_Fs_list_8 rfl (lv_at hl 0 rfl) ?_
    obtain ⟨o3, e_o3, hf⟩ := fh_b hf
    obtain ⟨r4, e_r4, hf⟩ := fh_b hf
    refine fh_callV (As := []) (rest := []) S fT_good hE hI e_o3 rfl (c_Fs_findLeads e_r4) fy_Fs_findLeads fst_Fs_findLeads k_70 ⟨rfl, rfl⟩ ⟨Nat.le_of_ble_eq_true rfl, Nat.le_of_ble_eq_true rfl⟩ ⟨Nat.zero_le _, Nat.zero_le _⟩ rfl hl.1 rfl (Nat.le_of_ble_eq_true rfl) d_Fs_list_9 (fun H locs hI => ?_)
    refine fh_aload_n S d_Fs_list_12 rfl (lv_at hl 0 rfl) ?_
    obtain ⟨x5, e_x5, hf⟩ := fh_b hf
    refine fh_geta S hE.1 hI e_x5 (hc := rfl) (hin := in_2) (by decide) (hts _ k_101) d_Fs_list_13 ?_
    refine lv_iload_n hx hb d_Fs_list_16 rfl (lv_at hl 1 rfl) ?_
    obtain ⟨x6, e_x6, hf⟩ := fh_b hf
    refine fh_aald S hE.1 hI 4 rfl e_x6 d_Fs_list_17 ?_
    refine lv_iconst (v := 0) hx hb d_Fs_list_18 (by decide) ?_
    obtain ⟨h7, e_h7, hf⟩ := fh_b hf
    refine fh_putv S hE.1 hI e_h7 (hc := rfl) (hin := in_5) tok_5 nok_5 (by decide) (hts _ k_106) rfl rfl rfl d_Fs_list_19 (fun H locs hI => ?_)
    refine lv_iload_n hx hb d_Fs_list_22 rfl (lv_at hl 1 rfl) ?_
    by_cases c_23_0 : a1 = 0
    · replace hf := fh_t c_23_0 hf
      refine lv_tableIn (tgt := 72) hx hb d_Fs_list_23 (by rw [c_23_0]; decide) (by rw [c_23_0]; decide) (off := 49) (by rw [c_23_0]; decide) (by decide) ?_
      refine fh_aload_n S d_Fs_list_72 rfl (lv_at hl 0 rfl) ?_
      obtain ⟨o10, e_o10, hf⟩ := fh_b hf
      obtain ⟨r11, e_r11, hf⟩ := fh_b hf
      refine fh_callV (As := []) (rest := []) S fT_good hE hI e_o10 rfl (c_Fs_listPairs e_r11) fy_Fs_listPairs fst_Fs_listPairs k_118 ⟨rfl, rfl⟩ ⟨Nat.le_of_ble_eq_true rfl, Nat.le_of_ble_eq_true rfl⟩ ⟨Nat.zero_le _, Nat.zero_le _⟩ rfl hl.1 rfl (Nat.le_of_ble_eq_true rfl) d_Fs_list_73 (fun H locs hI => ?_)
      refine lv_goto (tgt := 119) hx hb d_Fs_list_76 (by decide) ?_
      exact B119 a1 r11 _ _ _ (lv_sub hl [0, 1] rfl) hI hf
    replace hf := fh_f c_23_0 hf
    by_cases c_23_1 : a1 = 1
    · replace hf := fh_t c_23_1 hf
      refine lv_tableIn (tgt := 79) hx hb d_Fs_list_23 (by rw [c_23_1]; decide) (by rw [c_23_1]; decide) (off := 56) (by rw [c_23_1]; decide) (by decide) ?_
      refine fh_aload_n S d_Fs_list_79 rfl (lv_at hl 0 rfl) ?_
      obtain ⟨o12, e_o12, hf⟩ := fh_b hf
      obtain ⟨r13, e_r13, hf⟩ := fh_b hf
      refine fh_callV (As := []) (rest := []) S fT_good hE hI e_o12 rfl (c_Fs_listTriples e_r13) fy_Fs_listTriples fst_Fs_listTriples k_117 ⟨rfl, rfl⟩ ⟨Nat.le_of_ble_eq_true rfl, Nat.le_of_ble_eq_true rfl⟩ ⟨Nat.zero_le _, Nat.zero_le _⟩ rfl hl.1 rfl (Nat.le_of_ble_eq_true rfl) d_Fs_list_80 (fun H locs hI => ?_)
      refine lv_goto (tgt := 119) hx hb d_Fs_list_83 (by decide) ?_
      exact B119 a1 r13 _ _ _ (lv_sub hl [0, 1] rfl) hI hf
    replace hf := fh_f c_23_1 hf
    by_cases c_23_2 : a1 = 2
    · replace hf := fh_t c_23_2 hf
      refine lv_tableIn (tgt := 114) hx hb d_Fs_list_23 (by rw [c_23_2]; decide) (by rw [c_23_2]; decide) (off := 91) (by rw [c_23_2]; decide) (by decide) ?_
      refine fh_aload_n S d_Fs_list_114 rfl (lv_at hl 0 rfl) ?_
      refine lv_iload_n hx hb d_Fs_list_115 rfl (lv_at hl 1 rfl) ?_
      obtain ⟨o14, e_o14, hf⟩ := fh_b hf
      obtain ⟨r15, e_r15, hf⟩ := fh_b hf
      refine fh_callV (As := [.int a1]) (rest := []) S fT_good hE hI e_o14 rfl (c_Fs_listTwoPairs e_r15) fy_Fs_listTwoPairs fst_Fs_listTwoPairs k_119 ⟨rfl, rfl⟩ ⟨Nat.le_of_ble_eq_true rfl, Nat.le_of_ble_eq_true rfl⟩ ⟨Nat.zero_le _, Nat.zero_le _⟩ rfl hl.1 rfl (Nat.le_of_ble_eq_true rfl) d_Fs_list_116 (fun H locs hI => ?_)
      exact B119 a1 r15 _ _ _ (lv_sub hl [0, 1] rfl) hI hf
    replace hf := fh_f c_23_2 hf
    by_cases c_23_3 : a1 = 3
    · replace hf := fh_t c_23_3 hf
      refine lv_tableIn (tgt := 114) hx hb d_Fs_list_23 (by rw [c_23_3]; decide) (by rw [c_23_3]; decide) (off := 91) (by rw [c_23_3]; decide) (by decide) ?_
      refine fh_aload_n S d_Fs_list_114 rfl (lv_at hl 0 rfl) ?_
      refine lv_iload_n hx hb d_Fs_list_115 rfl (lv_at hl 1 rfl) ?_
      obtain ⟨o16, e_o16, hf⟩ := fh_b hf
      obtain ⟨r17, e_r17, hf⟩ := fh_b hf
      refine fh_callV (As := [.int a1]) (rest := []) S fT_good hE hI e_o16 rfl (c_Fs_listTwoPairs e_r17) fy_Fs_listTwoPairs fst_Fs_listTwoPairs k_119 ⟨rfl, rfl⟩ ⟨Nat.le_of_ble_eq_true rfl, Nat.le_of_ble_eq_true rfl⟩ ⟨Nat.zero_le _, Nat.zero_le _⟩ rfl hl.1 rfl (Nat.le_of_ble_eq_true rfl) d_Fs_list_116 (fun H locs hI => ?_)
      exact B119 a1 r17 _ _ _ (lv_sub hl [0, 1] rfl) hI hf
    replace hf := fh_f c_23_3 hf
    by_cases c_23_4 : a1 = 4
    · replace hf := fh_t c_23_4 hf
      refine lv_tableIn (tgt := 114) hx hb d_Fs_list_23 (by rw [c_23_4]; decide) (by rw [c_23_4]; decide) (off := 91) (by rw [c_23_4]; decide) (by decide) ?_
      refine fh_aload_n S d_Fs_list_114 rfl (lv_at hl 0 rfl) ?_
      refine lv_iload_n hx hb d_Fs_list_115 rfl (lv_at hl 1 rfl) ?_
      obtain ⟨o18, e_o18, hf⟩ := fh_b hf
      obtain ⟨r19, e_r19, hf⟩ := fh_b hf
      refine fh_callV (As := [.int a1]) (rest := []) S fT_good hE hI e_o18 rfl (c_Fs_listTwoPairs e_r19) fy_Fs_listTwoPairs fst_Fs_listTwoPairs k_119 ⟨rfl, rfl⟩ ⟨Nat.le_of_ble_eq_true rfl, Nat.le_of_ble_eq_true rfl⟩ ⟨Nat.zero_le _, Nat.zero_le _⟩ rfl hl.1 rfl (Nat.le_of_ble_eq_true rfl) d_Fs_list_116 (fun H locs hI => ?_)
      exact B119 a1 r19 _ _ _ (lv_sub hl [0, 1] rfl) hI hf
    replace hf := fh_f c_23_4 hf
    by_cases c_23_5 : a1 = 5
    · replace hf := fh_t c_23_5 hf
      refine lv_tableIn (tgt := 86) hx hb d_Fs_list_23 (by rw [c_23_5]; decide) (by rw [c_23_5]; decide) (off := 63) (by rw [c_23_5]; decide) (by decide) ?_
      refine fh_aload_n S d_Fs_list_86 rfl (lv_at hl 0 rfl) ?_
      obtain ⟨o20, e_o20, hf⟩ := fh_b hf
      obtain ⟨r21, e_r21, hf⟩ := fh_b hf
      refine fh_callV (As := []) (rest := []) S fT_good hE hI e_o20 rfl (c_Fs_listFours e_r21) fy_Fs_listFours fst_Fs_listFours k_116 ⟨rfl, rfl⟩ ⟨Nat.le_of_ble_eq_true rfl, Nat.le_of_ble_eq_true rfl⟩ ⟨Nat.zero_le _, Nat.zero_le _⟩ rfl hl.1 rfl (Nat.le_of_ble_eq_true rfl) d_Fs_list_87 (fun H locs hI => ?_)
      refine lv_goto (tgt := 119) hx hb d_Fs_list_90 (by decide) ?_
      exact B119 a1 r21 _ _ _ (lv_sub hl [0, 1] rfl) hI hf
    replace hf := fh_f c_23_5 hf
    by_cases c_23_6 : a1 = 6
    · replace hf := fh_t c_23_6 hf
      refine lv_tableIn (tgt := 93) hx hb d_Fs_list_23 (by rw [c_23_6]; decide) (by rw [c_23_6]; decide) (off := 70) (by rw [c_23_6]; decide) (by decide) ?_
      refine fh_aload_n S d_Fs_list_93 rfl (lv_at hl 0 rfl) ?_
      obtain ⟨o22, e_o22, hf⟩ := fh_b hf
      obtain ⟨r23, e_r23, hf⟩ := fh_b hf
      refine fh_callV (As := []) (rest := []) S fT_good hE hI e_o22 rfl (c_Fs_listMiddles e_r23) fy_Fs_listMiddles fst_Fs_listMiddles k_115 ⟨rfl, rfl⟩ ⟨Nat.le_of_ble_eq_true rfl, Nat.le_of_ble_eq_true rfl⟩ ⟨Nat.zero_le _, Nat.zero_le _⟩ rfl hl.1 rfl (Nat.le_of_ble_eq_true rfl) d_Fs_list_94 (fun H locs hI => ?_)
      refine lv_goto (tgt := 119) hx hb d_Fs_list_97 (by decide) ?_
      exact B119 a1 r23 _ _ _ (lv_sub hl [0, 1] rfl) hI hf
    replace hf := fh_f c_23_6 hf
    by_cases c_23_7 : a1 = 7
    · replace hf := fh_t c_23_7 hf
      refine lv_tableIn (tgt := 100) hx hb d_Fs_list_23 (by rw [c_23_7]; decide) (by rw [c_23_7]; decide) (off := 77) (by rw [c_23_7]; decide) (by decide) ?_
      refine fh_aload_n S d_Fs_list_100 rfl (lv_at hl 0 rfl) ?_
      obtain ⟨o24, e_o24, hf⟩ := fh_b hf
      obtain ⟨r25, e_r25, hf⟩ := fh_b hf
      refine fh_callV (As := []) (rest := []) S fT_good hE hI e_o24 rfl (c_Fs_listAreas e_r25) fy_Fs_listAreas fst_Fs_listAreas k_114 ⟨rfl, rfl⟩ ⟨Nat.le_of_ble_eq_true rfl, Nat.le_of_ble_eq_true rfl⟩ ⟨Nat.zero_le _, Nat.zero_le _⟩ rfl hl.1 rfl (Nat.le_of_ble_eq_true rfl) d_Fs_list_101 (fun H locs hI => ?_)
      refine lv_goto (tgt := 119) hx hb d_Fs_list_104 (by decide) ?_
      exact B119 a1 r25 _ _ _ (lv_sub hl [0, 1] rfl) hI hf
    replace hf := fh_f c_23_7 hf
    by_cases c_23_8 : a1 = 8
    · replace hf := fh_t c_23_8 hf
      refine lv_tableIn (tgt := 107) hx hb d_Fs_list_23 (by rw [c_23_8]; decide) (by rw [c_23_8]; decide) (off := 84) (by rw [c_23_8]; decide) (by decide) ?_
      refine fh_aload_n S d_Fs_list_107 rfl (lv_at hl 0 rfl) ?_
      obtain ⟨o26, e_o26, hf⟩ := fh_b hf
      obtain ⟨r27, e_r27, hf⟩ := fh_b hf
      refine fh_callV (As := []) (rest := []) S fT_good hE hI e_o26 rfl (c_Fs_listRatios e_r27) fy_Fs_listRatios fst_Fs_listRatios k_113 ⟨rfl, rfl⟩ ⟨Nat.le_of_ble_eq_true rfl, Nat.le_of_ble_eq_true rfl⟩ ⟨Nat.zero_le _, Nat.zero_le _⟩ rfl hl.1 rfl (Nat.le_of_ble_eq_true rfl) d_Fs_list_108 (fun H locs hI => ?_)
      refine lv_goto (tgt := 119) hx hb d_Fs_list_111 (by decide) ?_
      exact B119 a1 r27 _ _ _ (lv_sub hl [0, 1] rfl) hI hf
    replace hf := fh_f c_23_8 hf
    have c_23 : a1.toInt < 0 ∨ 8 < a1.toInt := by
      have q0 : a1.toInt ≠ 0 := fun q => c_23_0 (Int32.toInt_inj.mp (q.trans (by decide)))
      have q1 : a1.toInt ≠ 1 := fun q => c_23_1 (Int32.toInt_inj.mp (q.trans (by decide)))
      have q2 : a1.toInt ≠ 2 := fun q => c_23_2 (Int32.toInt_inj.mp (q.trans (by decide)))
      have q3 : a1.toInt ≠ 3 := fun q => c_23_3 (Int32.toInt_inj.mp (q.trans (by decide)))
      have q4 : a1.toInt ≠ 4 := fun q => c_23_4 (Int32.toInt_inj.mp (q.trans (by decide)))
      have q5 : a1.toInt ≠ 5 := fun q => c_23_5 (Int32.toInt_inj.mp (q.trans (by decide)))
      have q6 : a1.toInt ≠ 6 := fun q => c_23_6 (Int32.toInt_inj.mp (q.trans (by decide)))
      have q7 : a1.toInt ≠ 7 := fun q => c_23_7 (Int32.toInt_inj.mp (q.trans (by decide)))
      have q8 : a1.toInt ≠ 8 := fun q => c_23_8 (Int32.toInt_inj.mp (q.trans (by decide)))
      omega
    refine lv_tableOut (tgt := 114) hx hb d_Fs_list_23 c_23 (by decide) ?_
    refine fh_aload_n S d_Fs_list_114 rfl (lv_at hl 0 rfl) ?_
    refine lv_iload_n hx hb d_Fs_list_115 rfl (lv_at hl 1 rfl) ?_
    obtain ⟨o8, e_o8, hf⟩ := fh_b hf
    obtain ⟨r9, e_r9, hf⟩ := fh_b hf
    refine fh_callV (As := [.int a1]) (rest := []) S fT_good hE hI e_o8 rfl (c_Fs_listTwoPairs e_r9) fy_Fs_listTwoPairs fst_Fs_listTwoPairs k_119 ⟨rfl, rfl⟩ ⟨Nat.le_of_ble_eq_true rfl, Nat.le_of_ble_eq_true rfl⟩ ⟨Nat.zero_le _, Nat.zero_le _⟩ rfl hl.1 rfl (Nat.le_of_ble_eq_true rfl) d_Fs_list_116 (fun H locs hI => ?_)
    exact B119 a1 r9 _ _ _ (lv_sub hl [0, 1] rfl) hI hf
theorem d_FF_facts_0 : decode c0_FF_facts 0 = .ok (.iload_n 1, 1) := by decide +kernel
theorem d_FF_facts_1 : decode c0_FF_facts 1 = .ok (.invokestatic 103, 3) := by decide +kernel
theorem d_FF_facts_4 : decode c0_FF_facts 4 = .ok (.ifCond .eq 17, 3) := by decide +kernel
theorem d_FF_facts_7 : decode c0_FF_facts 7 = .ok (.aload_n 0, 1) := by decide +kernel
theorem d_FF_facts_8 : decode c0_FF_facts 8 = .ok (.getfield 19, 3) := by decide +kernel
theorem d_FF_facts_11 : decode c0_FF_facts 11 = .ok (.iload_n 1, 1) := by decide +kernel
theorem d_FF_facts_12 : decode c0_FF_facts 12 = .ok (.invokevirtual 127, 3) := by decide +kernel
theorem d_FF_facts_15 : decode c0_FF_facts 15 = .ok (.getfield 131, 3) := by decide +kernel
theorem d_FF_facts_18 : decode c0_FF_facts 18 = .ok (.goto 5, 3) := by decide +kernel
theorem d_FF_facts_21 : decode c0_FF_facts 21 = .ok (.bipush (-2), 2) := by decide +kernel
theorem d_FF_facts_23 : decode c0_FF_facts 23 = .ok (.ireturn, 1) := by decide +kernel
def f_FF_facts (K : Nat → ClassId) (N : Nat) (o : Nat) (a1 : Int32) (h0 : fh_H) : Option (Int32 × fh_H) :=
  (f_FF_isFactKind K N a1 h0).bind fun r1 => if r1.1 = 0 then (some ((-2), r1.2)) else ((fg_a r1.2 (some o) 0 1).bind fun x2 => (fg_o r1.2 x2 2).bind fun o3 => (f_Fs_list K N o3 a1 r1.2).bind fun r4 => (fg_i r4.2 r4.1 5 1).bind fun x5 => some (x5, r4.2))
set_option maxHeartbeats 4000000 in
set_option maxRecDepth 100000 in
theorem c_FF_facts {l : Launch} {D : va_G} {K : Nat → ClassId} {t : Nat → Nat} {N : Nat} {o : Nat} {a1 : Int32} {h0 : fh_H} {res : Int32 × fh_H} (hf : f_FF_facts K N o a1 h0 = some res) : fC l D K t y_FF_facts c0_FF_facts 2 (some .int) rm_FF_facts [.ref o, .int a1] h0 (some (.int res.1)) res.2 := by
  refine fh_body (by decide) (Nat.le_of_ble_eq_true rfl) ?_
  intro p e s m below meth c A ls S hr hk hnm hE hAe hI hl
  obtain ⟨hx, hb, hml, hown, hts⟩ := id S
  have hl : lv_has ls 2 [(0, va_rf (some o)), (1, .int a1)] := hl
  unfold f_FF_facts at hf
  refine lv_iload_n hx hb d_FF_facts_0 rfl (lv_at hl 1 rfl) ?_
  obtain ⟨r1, e_r1, hf⟩ := fh_b hf
  refine fh_callS (As := [.int a1]) (rest := []) S fT_good hE hI (c_FF_isFactKind e_r1) fy_FF_isFactKind fst_FF_isFactKind k_92 ⟨rfl, rfl⟩ ⟨Nat.le_of_ble_eq_true rfl, Nat.le_of_ble_eq_true rfl⟩ ⟨Nat.zero_le _, Nat.zero_le _⟩ rfl hl.1 rfl (Nat.le_of_ble_eq_true rfl) d_FF_facts_1 (fun H locs hI => ?_)
  refine lv_if_eq (tgt := 21) hx hb d_FF_facts_4 (by decide) (fun c_4 => ?_) (fun c_4 => ?_)
  · replace hf := fh_t c_4 hf
    refine lv_bipush (v := (-2)) hx hb d_FF_facts_21 (by decide) ?_
    obtain rfl := Option.some.inj hf
    exact fh_iret S hr hk rfl hAe hI d_FF_facts_23
  · replace hf := fh_f c_4 hf
    refine fh_aload_n S d_FF_facts_7 rfl (lv_at hl 0 rfl) ?_
    obtain ⟨x2, e_x2, hf⟩ := fh_b hf
    refine fh_geta S hE.1 hI e_x2 (hc := rfl) (hin := in_0) (by decide) (hts _ k_40) d_FF_facts_8 ?_
    refine lv_iload_n hx hb d_FF_facts_11 rfl (lv_at hl 1 rfl) ?_
    obtain ⟨o3, e_o3, hf⟩ := fh_b hf
    obtain ⟨r4, e_r4, hf⟩ := fh_b hf
    refine fh_callV (As := [.int a1]) (rest := []) S fT_good hE hI e_o3 rfl (c_Fs_list e_r4) fy_Fs_list fst_Fs_list k_120 ⟨rfl, rfl⟩ ⟨Nat.le_of_ble_eq_true rfl, Nat.le_of_ble_eq_true rfl⟩ ⟨Nat.zero_le _, Nat.zero_le _⟩ rfl hl.1 rfl (Nat.le_of_ble_eq_true rfl) d_FF_facts_12 (fun H locs hI => ?_)
    obtain ⟨x5, e_x5, hf⟩ := fh_b hf
    refine fh_geti S hE.1 hI e_x5 (hc := rfl) (hin := in_5) (by decide) (hts _ k_121) d_FF_facts_15 ?_
    refine lv_goto (tgt := 23) hx hb d_FF_facts_18 (by decide) ?_
    obtain rfl := Option.some.inj hf
    exact fh_iret S hr hk rfl hAe hI d_FF_facts_23
theorem d_IL_has_0 : decode c0_IL_has 0 = .ok (.iload_n 1, 1) := by decide +kernel
theorem d_IL_has_1 : decode c0_IL_has 1 = .ok (.ifCond .lt 15, 3) := by decide +kernel
theorem d_IL_has_4 : decode c0_IL_has 4 = .ok (.iload_n 1, 1) := by decide +kernel
theorem d_IL_has_5 : decode c0_IL_has 5 = .ok (.aload_n 0, 1) := by decide +kernel
theorem d_IL_has_6 : decode c0_IL_has 6 = .ok (.getfield 19, 3) := by decide +kernel
theorem d_IL_has_9 : decode c0_IL_has 9 = .ok (.if_icmp .ge 7, 3) := by decide +kernel
theorem d_IL_has_12 : decode c0_IL_has 12 = .ok (.iconst 1, 1) := by decide +kernel
theorem d_IL_has_13 : decode c0_IL_has 13 = .ok (.goto 4, 3) := by decide +kernel
theorem d_IL_has_16 : decode c0_IL_has 16 = .ok (.iconst 0, 1) := by decide +kernel
theorem d_IL_has_17 : decode c0_IL_has 17 = .ok (.ireturn, 1) := by decide +kernel
def f_IL_has (K : Nat → ClassId) (N : Nat) (o : Nat) (a1 : Int32) (h0 : fh_H) : Option (Int32 × fh_H) :=
  if a1 < 0 then (some (0, h0)) else ((fg_i h0 (some o) 5 1).bind fun x1 => if x1 ≤ a1 then (some (0, h0)) else (some (1, h0)))
set_option maxHeartbeats 4000000 in
set_option maxRecDepth 100000 in
theorem c_IL_has {l : Launch} {D : va_G} {K : Nat → ClassId} {t : Nat → Nat} {N : Nat} {o : Nat} {a1 : Int32} {h0 : fh_H} {res : Int32 × fh_H} (hf : f_IL_has K N o a1 h0 = some res) : fC l D K t y_IL_has c0_IL_has 2 (some .boolean) rm_IL_has [.ref o, .int a1] h0 (some (.int res.1)) res.2 := by
  refine fh_body (by decide) (Nat.le_of_ble_eq_true rfl) ?_
  intro p e s m below meth c A ls S hr hk hnm hE hAe hI hl
  obtain ⟨hx, hb, hml, hown, hts⟩ := id S
  have hl : lv_has ls 2 [(0, va_rf (some o)), (1, .int a1)] := hl
  unfold f_IL_has at hf
  refine lv_iload_n hx hb d_IL_has_0 rfl (lv_at hl 1 rfl) ?_
  refine lv_if_lt (tgt := 16) hx hb d_IL_has_1 (by decide) (fun c_1 => ?_) (fun c_1 => ?_)
  · replace hf := fh_t c_1 hf
    refine lv_iconst (v := 0) hx hb d_IL_has_16 (by decide) ?_
    obtain rfl := Option.some.inj hf
    exact fh_iret S hr hk (fh_nb (Or.inl rfl)) hAe hI d_IL_has_17
  · replace hf := fh_f c_1 hf
    refine lv_iload_n hx hb d_IL_has_4 rfl (lv_at hl 1 rfl) ?_
    refine fh_aload_n S d_IL_has_5 rfl (lv_at hl 0 rfl) ?_
    obtain ⟨x1, e_x1, hf⟩ := fh_b hf
    refine fh_geti S hE.1 hI e_x1 (hc := rfl) (hin := in_5) (by decide) (hts _ k_99) d_IL_has_6 ?_
    refine lv_icmp_ge (tgt := 16) hx hb d_IL_has_9 (by decide) (fun c_9 => ?_) (fun c_9 => ?_)
    · replace hf := fh_t c_9 hf
      refine lv_iconst (v := 0) hx hb d_IL_has_16 (by decide) ?_
      obtain rfl := Option.some.inj hf
      exact fh_iret S hr hk (fh_nb (Or.inl rfl)) hAe hI d_IL_has_17
    · replace hf := fh_f c_9 hf
      refine lv_iconst (v := 1) hx hb d_IL_has_12 (by decide) ?_
      refine lv_goto (tgt := 17) hx hb d_IL_has_13 (by decide) ?_
      obtain rfl := Option.some.inj hf
      exact fh_iret S hr hk (fh_nb (Or.inr rfl)) hAe hI d_IL_has_17
theorem d_FF_fact_0 : decode c0_FF_fact 0 = .ok (.iload_n 1, 1) := by decide +kernel
theorem d_FF_fact_1 : decode c0_FF_fact 1 = .ok (.invokestatic 103, 3) := by decide +kernel
theorem d_FF_fact_4 : decode c0_FF_fact 4 = .ok (.ifCond .ne 6, 3) := by decide +kernel
theorem d_FF_fact_7 : decode c0_FF_fact 7 = .ok (.bipush (-2), 2) := by decide +kernel
theorem d_FF_fact_9 : decode c0_FF_fact 9 = .ok (.ireturn, 1) := by decide +kernel
theorem d_FF_fact_10 : decode c0_FF_fact 10 = .ok (.aload_n 0, 1) := by decide +kernel
theorem d_FF_fact_11 : decode c0_FF_fact 11 = .ok (.getfield 19, 3) := by decide +kernel
theorem d_FF_fact_14 : decode c0_FF_fact 14 = .ok (.iload_n 1, 1) := by decide +kernel
theorem d_FF_fact_15 : decode c0_FF_fact 15 = .ok (.invokevirtual 127, 3) := by decide +kernel
theorem d_FF_fact_18 : decode c0_FF_fact 18 = .ok (.astore 4, 2) := by decide +kernel
theorem d_FF_fact_20 : decode c0_FF_fact 20 = .ok (.aload 4, 2) := by decide +kernel
theorem d_FF_fact_22 : decode c0_FF_fact 22 = .ok (.iload_n 2, 1) := by decide +kernel
theorem d_FF_fact_23 : decode c0_FF_fact 23 = .ok (.invokevirtual 134, 3) := by decide +kernel
theorem d_FF_fact_26 : decode c0_FF_fact 26 = .ok (.ifCond .eq 16, 3) := by decide +kernel
theorem d_FF_fact_29 : decode c0_FF_fact 29 = .ok (.iload_n 3, 1) := by decide +kernel
theorem d_FF_fact_30 : decode c0_FF_fact 30 = .ok (.ifCond .lt 12, 3) := by decide +kernel
theorem d_FF_fact_33 : decode c0_FF_fact 33 = .ok (.iload_n 3, 1) := by decide +kernel
theorem d_FF_fact_34 : decode c0_FF_fact 34 = .ok (.getstatic 137, 3) := by decide +kernel
theorem d_FF_fact_37 : decode c0_FF_fact 37 = .ok (.iload_n 1, 1) := by decide +kernel
theorem d_FF_fact_38 : decode c0_FF_fact 38 = .ok (.iaload, 1) := by decide +kernel
theorem d_FF_fact_39 : decode c0_FF_fact 39 = .ok (.if_icmp .lt 5, 3) := by decide +kernel
theorem d_FF_fact_42 : decode c0_FF_fact 42 = .ok (.iconst (-1), 1) := by decide +kernel
theorem d_FF_fact_43 : decode c0_FF_fact 43 = .ok (.ireturn, 1) := by decide +kernel
theorem d_FF_fact_44 : decode c0_FF_fact 44 = .ok (.aload 4, 2) := by decide +kernel
theorem d_FF_fact_46 : decode c0_FF_fact 46 = .ok (.getfield 140, 3) := by decide +kernel
theorem d_FF_fact_49 : decode c0_FF_fact 49 = .ok (.iload_n 2, 1) := by decide +kernel
theorem d_FF_fact_50 : decode c0_FF_fact 50 = .ok (.iaload, 1) := by decide +kernel
theorem d_FF_fact_51 : decode c0_FF_fact 51 = .ok (.iload_n 3, 1) := by decide +kernel
theorem d_FF_fact_52 : decode c0_FF_fact 52 = .ok (.invokestatic 143, 3) := by decide +kernel
theorem d_FF_fact_55 : decode c0_FF_fact 55 = .ok (.ireturn, 1) := by decide +kernel
def f_FF_fact (K : Nat → ClassId) (N : Nat) (o : Nat) (a1 : Int32) (a2 : Int32) (a3 : Int32) (h0 : fh_H) : Option (Int32 × fh_H) :=
  (f_FF_isFactKind K N a1 h0).bind fun r1 => if r1.1 = 0 then (some ((-2), r1.2)) else ((fg_a r1.2 (some o) 0 1).bind fun x2 => (fg_o r1.2 x2 2).bind fun o3 => (f_Fs_list K N o3 a1 r1.2).bind fun r4 => (fg_o r4.2 r4.1 5).bind fun o5 => (f_IL_has K N o5 a2 r4.2).bind fun r6 => if r6.1 = 0 then (some ((-1), r6.2)) else (if a3 < 0 then (some ((-1), r6.2)) else ((ft_i 9 tb_3 a1).bind fun x7 => if a3 < x7 then ((fg_a r6.2 r4.1 5 0).bind fun x8 => (fa_i (K 0) r6.2 x8 a2).bind fun x9 => (f_FF_unpack K N x9 a3 r6.2).bind fun r10 => some (r10.1, r10.2)) else (some ((-1), r6.2)))))
set_option maxHeartbeats 4000000 in
set_option maxRecDepth 100000 in
theorem c_FF_fact {l : Launch} {D : va_G} {K : Nat → ClassId} {t : Nat → Nat} {N : Nat} {o : Nat} {a1 : Int32} {a2 : Int32} {a3 : Int32} {h0 : fh_H} {res : Int32 × fh_H} (hf : f_FF_fact K N o a1 a2 a3 h0 = some res) : fC l D K t y_FF_fact c0_FF_fact 5 (some .int) rm_FF_fact [.ref o, .int a1, .int a2, .int a3] h0 (some (.int res.1)) res.2 := by
  refine fh_body (by decide) (Nat.le_of_ble_eq_true rfl) ?_
  intro p e s m below meth c A ls S hr hk hnm hE hAe hI hl
  obtain ⟨hx, hb, hml, hown, hts⟩ := id S
  have hl : lv_has ls 5 [(0, va_rf (some o)), (1, .int a1), (2, .int a2), (3, .int a3)] := hl
  unfold f_FF_fact at hf
  refine lv_iload_n hx hb d_FF_fact_0 rfl (lv_at hl 1 rfl) ?_
  obtain ⟨r1, e_r1, hf⟩ := fh_b hf
  refine fh_callS (As := [.int a1]) (rest := []) S fT_good hE hI (c_FF_isFactKind e_r1) fy_FF_isFactKind fst_FF_isFactKind k_92 ⟨rfl, rfl⟩ ⟨Nat.le_of_ble_eq_true rfl, Nat.le_of_ble_eq_true rfl⟩ ⟨Nat.zero_le _, Nat.zero_le _⟩ rfl hl.1 rfl (Nat.le_of_ble_eq_true rfl) d_FF_fact_1 (fun H locs hI => ?_)
  refine lv_if_ne (tgt := 10) hx hb d_FF_fact_4 (by decide) (fun c_4 => ?_) (fun c_4 => ?_)
  · replace hf := fh_f c_4 hf
    refine fh_aload_n S d_FF_fact_10 rfl (lv_at hl 0 rfl) ?_
    obtain ⟨x2, e_x2, hf⟩ := fh_b hf
    refine fh_geta S hE.1 hI e_x2 (hc := rfl) (hin := in_0) (by decide) (hts _ k_40) d_FF_fact_11 ?_
    refine lv_iload_n hx hb d_FF_fact_14 rfl (lv_at hl 1 rfl) ?_
    obtain ⟨o3, e_o3, hf⟩ := fh_b hf
    obtain ⟨r4, e_r4, hf⟩ := fh_b hf
    refine fh_callV (As := [.int a1]) (rest := []) S fT_good hE hI e_o3 rfl (c_Fs_list e_r4) fy_Fs_list fst_Fs_list k_120 ⟨rfl, rfl⟩ ⟨Nat.le_of_ble_eq_true rfl, Nat.le_of_ble_eq_true rfl⟩ ⟨Nat.zero_le _, Nat.zero_le _⟩ rfl hl.1 rfl (Nat.le_of_ble_eq_true rfl) d_FF_fact_15 (fun H locs hI => ?_)
    refine fh_astore (lv' := [(4, va_rf r4.1), (0, va_rf (some o)), (1, .int a1), (2, .int a2), (3, .int a3)]) S d_FF_fact_18 hl (by decide) rfl (fun ls hl => ?_)
    refine fh_aload S d_FF_fact_20 (lv_at hl 0 rfl) ?_
    refine lv_iload_n hx hb d_FF_fact_22 rfl (lv_at hl 3 rfl) ?_
    obtain ⟨o5, e_o5, hf⟩ := fh_b hf
    obtain ⟨r6, e_r6, hf⟩ := fh_b hf
    refine fh_callV (As := [.int a2]) (rest := []) S fT_good hE hI e_o5 rfl (c_IL_has e_r6) fy_IL_has fst_IL_has k_122 ⟨rfl, rfl⟩ ⟨Nat.le_of_ble_eq_true rfl, Nat.le_of_ble_eq_true rfl⟩ ⟨Nat.zero_le _, Nat.zero_le _⟩ rfl hl.1 rfl (Nat.le_of_ble_eq_true rfl) d_FF_fact_23 (fun H locs hI => ?_)
    refine lv_if_eq (tgt := 42) hx hb d_FF_fact_26 (by decide) (fun c_26 => ?_) (fun c_26 => ?_)
    · replace hf := fh_t c_26 hf
      refine lv_iconst (v := (-1)) hx hb d_FF_fact_42 (by decide) ?_
      obtain rfl := Option.some.inj hf
      exact fh_iret S hr hk rfl hAe hI d_FF_fact_43
    · replace hf := fh_f c_26 hf
      refine lv_iload_n hx hb d_FF_fact_29 rfl (lv_at hl 4 rfl) ?_
      refine lv_if_lt (tgt := 42) hx hb d_FF_fact_30 (by decide) (fun c_30 => ?_) (fun c_30 => ?_)
      · replace hf := fh_t c_30 hf
        refine lv_iconst (v := (-1)) hx hb d_FF_fact_42 (by decide) ?_
        obtain rfl := Option.some.inj hf
        exact fh_iret S hr hk rfl hAe hI d_FF_fact_43
      · replace hf := fh_f c_30 hf
        refine lv_iload_n hx hb d_FF_fact_33 rfl (lv_at hl 4 rfl) ?_
        refine fh_gett S hE.2.1 hI (k := 3) rfl (hts _ k_123) d_FF_fact_34 ?_
        refine lv_iload_n hx hb d_FF_fact_37 rfl (lv_at hl 2 rfl) ?_
        obtain ⟨x7, e_x7, hf⟩ := fh_b hf
        refine fh_tald S hE.2.1 hI (k := 3) rfl e_x7 d_FF_fact_38 ?_
        refine lv_icmp_lt (tgt := 44) hx hb d_FF_fact_39 (by decide) (fun c_39 => ?_) (fun c_39 => ?_)
        · replace hf := fh_t c_39 hf
          refine fh_aload S d_FF_fact_44 (lv_at hl 0 rfl) ?_
          obtain ⟨x8, e_x8, hf⟩ := fh_b hf
          refine fh_geta S hE.1 hI e_x8 (hc := rfl) (hin := in_5) (by decide) (hts _ k_124) d_FF_fact_46 ?_
          refine lv_iload_n hx hb d_FF_fact_49 rfl (lv_at hl 3 rfl) ?_
          obtain ⟨x9, e_x9, hf⟩ := fh_b hf
          refine fh_iald S hE.1 hI 0 rfl e_x9 d_FF_fact_50 ?_
          refine lv_iload_n hx hb d_FF_fact_51 rfl (lv_at hl 4 rfl) ?_
          obtain ⟨r10, e_r10, hf⟩ := fh_b hf
          refine fh_callS (As := [.int x9, .int a3]) (rest := []) S fT_good hE hI (c_FF_unpack e_r10) fy_FF_unpack fst_FF_unpack k_125 ⟨rfl, rfl⟩ ⟨Nat.le_of_ble_eq_true rfl, Nat.le_of_ble_eq_true rfl⟩ ⟨Nat.zero_le _, Nat.zero_le _⟩ rfl hl.1 rfl (Nat.le_of_ble_eq_true rfl) d_FF_fact_52 (fun H locs hI => ?_)
          obtain rfl := Option.some.inj hf
          exact fh_iret S hr hk rfl hAe hI d_FF_fact_55
        · replace hf := fh_f c_39 hf
          refine lv_iconst (v := (-1)) hx hb d_FF_fact_42 (by decide) ?_
          obtain rfl := Option.some.inj hf
          exact fh_iret S hr hk rfl hAe hI d_FF_fact_43
  · replace hf := fh_t c_4 hf
    refine lv_bipush (v := (-2)) hx hb d_FF_fact_7 (by decide) ?_
    obtain rfl := Option.some.inj hf
    exact fh_iret S hr hk rfl hAe hI d_FF_fact_9
theorem d_FF_needs_0 : decode c0_FF_needs 0 = .ok (.iload_n 1, 1) := by decide +kernel
theorem d_FF_needs_1 : decode c0_FF_needs 1 = .ok (.invokestatic 103, 3) := by decide +kernel
theorem d_FF_needs_4 : decode c0_FF_needs 4 = .ok (.ifCond .eq 11, 3) := by decide +kernel
theorem d_FF_needs_7 : decode c0_FF_needs 7 = .ok (.aload_n 0, 1) := by decide +kernel
theorem d_FF_needs_8 : decode c0_FF_needs 8 = .ok (.iload_n 3, 1) := by decide +kernel
theorem d_FF_needs_9 : decode c0_FF_needs 9 = .ok (.invokevirtual 62, 3) := by decide +kernel
theorem d_FF_needs_12 : decode c0_FF_needs 12 = .ok (.ifCond .ne 6, 3) := by decide +kernel
theorem d_FF_needs_15 : decode c0_FF_needs 15 = .ok (.bipush (-2), 2) := by decide +kernel
theorem d_FF_needs_17 : decode c0_FF_needs 17 = .ok (.ireturn, 1) := by decide +kernel
theorem d_FF_needs_18 : decode c0_FF_needs 18 = .ok (.aload_n 0, 1) := by decide +kernel
theorem d_FF_needs_19 : decode c0_FF_needs 19 = .ok (.getfield 19, 3) := by decide +kernel
theorem d_FF_needs_22 : decode c0_FF_needs 22 = .ok (.iload_n 1, 1) := by decide +kernel
theorem d_FF_needs_23 : decode c0_FF_needs 23 = .ok (.invokevirtual 127, 3) := by decide +kernel
theorem d_FF_needs_26 : decode c0_FF_needs 26 = .ok (.astore 4, 2) := by decide +kernel
theorem d_FF_needs_28 : decode c0_FF_needs 28 = .ok (.aload 4, 2) := by decide +kernel
theorem d_FF_needs_30 : decode c0_FF_needs 30 = .ok (.iload_n 2, 1) := by decide +kernel
theorem d_FF_needs_31 : decode c0_FF_needs 31 = .ok (.invokevirtual 134, 3) := by decide +kernel
theorem d_FF_needs_34 : decode c0_FF_needs 34 = .ok (.ifCond .ne 5, 3) := by decide +kernel
theorem d_FF_needs_37 : decode c0_FF_needs 37 = .ok (.iconst (-1), 1) := by decide +kernel
theorem d_FF_needs_38 : decode c0_FF_needs 38 = .ok (.ireturn, 1) := by decide +kernel
theorem d_FF_needs_39 : decode c0_FF_needs 39 = .ok (.aload_n 0, 1) := by decide +kernel
theorem d_FF_needs_40 : decode c0_FF_needs 40 = .ok (.getfield 26, 3) := by decide +kernel
theorem d_FF_needs_43 : decode c0_FF_needs 43 = .ok (.aload_n 0, 1) := by decide +kernel
theorem d_FF_needs_44 : decode c0_FF_needs 44 = .ok (.getfield 30, 3) := by decide +kernel
theorem d_FF_needs_47 : decode c0_FF_needs 47 = .ok (.aload_n 0, 1) := by decide +kernel
theorem d_FF_needs_48 : decode c0_FF_needs 48 = .ok (.getfield 34, 3) := by decide +kernel
theorem d_FF_needs_51 : decode c0_FF_needs 51 = .ok (.invokevirtual 146, 3) := by decide +kernel
theorem d_FF_needs_54 : decode c0_FF_needs 54 = .ok (.aload_n 0, 1) := by decide +kernel
theorem d_FF_needs_55 : decode c0_FF_needs 55 = .ok (.getfield 26, 3) := by decide +kernel
theorem d_FF_needs_58 : decode c0_FF_needs 58 = .ok (.aload_n 0, 1) := by decide +kernel
theorem d_FF_needs_59 : decode c0_FF_needs 59 = .ok (.getfield 10, 3) := by decide +kernel
theorem d_FF_needs_62 : decode c0_FF_needs 62 = .ok (.iload_n 3, 1) := by decide +kernel
theorem d_FF_needs_63 : decode c0_FF_needs 63 = .ok (.invokevirtual 54, 3) := by decide +kernel
theorem d_FF_needs_66 : decode c0_FF_needs 66 = .ok (.aload_n 0, 1) := by decide +kernel
theorem d_FF_needs_67 : decode c0_FF_needs 67 = .ok (.getfield 26, 3) := by decide +kernel
theorem d_FF_needs_70 : decode c0_FF_needs 70 = .ok (.iload_n 1, 1) := by decide +kernel
theorem d_FF_needs_71 : decode c0_FF_needs 71 = .ok (.aload 4, 2) := by decide +kernel
theorem d_FF_needs_73 : decode c0_FF_needs 73 = .ok (.getfield 140, 3) := by decide +kernel
theorem d_FF_needs_76 : decode c0_FF_needs 76 = .ok (.iload_n 2, 1) := by decide +kernel
theorem d_FF_needs_77 : decode c0_FF_needs 77 = .ok (.iaload, 1) := by decide +kernel
theorem d_FF_needs_78 : decode c0_FF_needs 78 = .ok (.invokevirtual 123, 3) := by decide +kernel
theorem d_FF_needs_81 : decode c0_FF_needs 81 = .ok (.ifCond .eq 7, 3) := by decide +kernel
theorem d_FF_needs_84 : decode c0_FF_needs 84 = .ok (.iconst 0, 1) := by decide +kernel
theorem d_FF_needs_85 : decode c0_FF_needs 85 = .ok (.goto 4, 3) := by decide +kernel
theorem d_FF_needs_88 : decode c0_FF_needs 88 = .ok (.iconst 1, 1) := by decide +kernel
theorem d_FF_needs_89 : decode c0_FF_needs 89 = .ok (.ireturn, 1) := by decide +kernel
def f_FF_needs (K : Nat → ClassId) (N : Nat) (o : Nat) (a1 : Int32) (a2 : Int32) (a3 : Int32) (h0 : fh_H) : Option (Int32 × fh_H) :=
  (f_FF_isFactKind K N a1 h0).bind fun r1 => if r1.1 = 0 then (some ((-2), r1.2)) else ((fg_o r1.2 (some o) 0).bind fun o2 => (f_FF_isThere K N o2 a3 r1.2).bind fun r3 => if r3.1 = 0 then (some ((-2), r3.2)) else ((fg_a r3.2 (some o) 0 1).bind fun x4 => (fg_o r3.2 x4 2).bind fun o5 => (f_Fs_list K N o5 a1 r3.2).bind fun r6 => (fg_o r6.2 r6.1 5).bind fun o7 => (f_IL_has K N o7 a2 r6.2).bind fun r8 => if r8.1 = 0 then (some ((-1), r8.2)) else ((fg_a r8.2 (some o) 0 2).bind fun x9 => (fg_i r8.2 (some o) 0 3).bind fun x10 => (fg_i r8.2 (some o) 0 4).bind fun x11 => (fg_o r8.2 x9 3).bind fun o12 => (f_Dr_begin K N o12 x10 x11 r8.2).bind fun r13 => (fg_a r13 (some o) 0 2).bind fun x14 => (fg_a r13 (some o) 0 0).bind fun x15 => (fg_o r13 x14 3).bind fun o16 => (f_Dr_goOn K N o16 x15 a3 r13).bind fun r17 => (fg_a r17 (some o) 0 2).bind fun x18 => (fg_a r17 r6.1 5 0).bind fun x19 => (fa_i (K 0) r17 x19 a2).bind fun x20 => (fg_o r17 x18 3).bind fun o21 => (f_Dr_bears K N o21 a1 x20 r17).bind fun r22 => if r22.1 = 0 then (some (1, r22.2)) else (some (0, r22.2)))))
set_option maxHeartbeats 4000000 in
set_option maxRecDepth 100000 in
theorem c_FF_needs {l : Launch} {D : va_G} {K : Nat → ClassId} {t : Nat → Nat} {N : Nat} {o : Nat} {a1 : Int32} {a2 : Int32} {a3 : Int32} {h0 : fh_H} {res : Int32 × fh_H} (hf : f_FF_needs K N o a1 a2 a3 h0 = some res) : fC l D K t y_FF_needs c0_FF_needs 5 (some .int) rm_FF_needs [.ref o, .int a1, .int a2, .int a3] h0 (some (.int res.1)) res.2 := by
  refine fh_body (by decide) (Nat.le_of_ble_eq_true rfl) ?_
  intro p e s m below meth c A ls S hr hk hnm hE hAe hI hl
  obtain ⟨hx, hb, hml, hown, hts⟩ := id S
  have hl : lv_has ls 5 [(0, va_rf (some o)), (1, .int a1), (2, .int a2), (3, .int a3)] := hl
  unfold f_FF_needs at hf
  refine lv_iload_n hx hb d_FF_needs_0 rfl (lv_at hl 1 rfl) ?_
  obtain ⟨r1, e_r1, hf⟩ := fh_b hf
  refine fh_callS (As := [.int a1]) (rest := []) S fT_good hE hI (c_FF_isFactKind e_r1) fy_FF_isFactKind fst_FF_isFactKind k_92 ⟨rfl, rfl⟩ ⟨Nat.le_of_ble_eq_true rfl, Nat.le_of_ble_eq_true rfl⟩ ⟨Nat.zero_le _, Nat.zero_le _⟩ rfl hl.1 rfl (Nat.le_of_ble_eq_true rfl) d_FF_needs_1 (fun H locs hI => ?_)
  refine lv_if_eq (tgt := 15) hx hb d_FF_needs_4 (by decide) (fun c_4 => ?_) (fun c_4 => ?_)
  · replace hf := fh_t c_4 hf
    refine lv_bipush (v := (-2)) hx hb d_FF_needs_15 (by decide) ?_
    obtain rfl := Option.some.inj hf
    exact fh_iret S hr hk rfl hAe hI d_FF_needs_17
  · replace hf := fh_f c_4 hf
    refine fh_aload_n S d_FF_needs_7 rfl (lv_at hl 0 rfl) ?_
    refine lv_iload_n hx hb d_FF_needs_8 rfl (lv_at hl 3 rfl) ?_
    obtain ⟨o2, e_o2, hf⟩ := fh_b hf
    obtain ⟨r3, e_r3, hf⟩ := fh_b hf
    refine fh_callV (As := [.int a3]) (rest := []) S fT_good hE hI e_o2 rfl (c_FF_isThere e_r3) fy_FF_isThere fst_FF_isThere k_54 ⟨rfl, rfl⟩ ⟨Nat.le_of_ble_eq_true rfl, Nat.le_of_ble_eq_true rfl⟩ ⟨Nat.zero_le _, Nat.zero_le _⟩ rfl hl.1 rfl (Nat.le_of_ble_eq_true rfl) d_FF_needs_9 (fun H locs hI => ?_)
    refine lv_if_ne (tgt := 18) hx hb d_FF_needs_12 (by decide) (fun c_12 => ?_) (fun c_12 => ?_)
    · replace hf := fh_f c_12 hf
      refine fh_aload_n S d_FF_needs_18 rfl (lv_at hl 0 rfl) ?_
      obtain ⟨x4, e_x4, hf⟩ := fh_b hf
      refine fh_geta S hE.1 hI e_x4 (hc := rfl) (hin := in_0) (by decide) (hts _ k_40) d_FF_needs_19 ?_
      refine lv_iload_n hx hb d_FF_needs_22 rfl (lv_at hl 1 rfl) ?_
      obtain ⟨o5, e_o5, hf⟩ := fh_b hf
      obtain ⟨r6, e_r6, hf⟩ := fh_b hf
      refine fh_callV (As := [.int a1]) (rest := []) S fT_good hE hI e_o5 rfl (c_Fs_list e_r6) fy_Fs_list fst_Fs_list k_120 ⟨rfl, rfl⟩ ⟨Nat.le_of_ble_eq_true rfl, Nat.le_of_ble_eq_true rfl⟩ ⟨Nat.zero_le _, Nat.zero_le _⟩ rfl hl.1 rfl (Nat.le_of_ble_eq_true rfl) d_FF_needs_23 (fun H locs hI => ?_)
      refine fh_astore (lv' := [(4, va_rf r6.1), (0, va_rf (some o)), (1, .int a1), (2, .int a2), (3, .int a3)]) S d_FF_needs_26 hl (by decide) rfl (fun ls hl => ?_)
      refine fh_aload S d_FF_needs_28 (lv_at hl 0 rfl) ?_
      refine lv_iload_n hx hb d_FF_needs_30 rfl (lv_at hl 3 rfl) ?_
      obtain ⟨o7, e_o7, hf⟩ := fh_b hf
      obtain ⟨r8, e_r8, hf⟩ := fh_b hf
      refine fh_callV (As := [.int a2]) (rest := []) S fT_good hE hI e_o7 rfl (c_IL_has e_r8) fy_IL_has fst_IL_has k_122 ⟨rfl, rfl⟩ ⟨Nat.le_of_ble_eq_true rfl, Nat.le_of_ble_eq_true rfl⟩ ⟨Nat.zero_le _, Nat.zero_le _⟩ rfl hl.1 rfl (Nat.le_of_ble_eq_true rfl) d_FF_needs_31 (fun H locs hI => ?_)
      refine lv_if_ne (tgt := 39) hx hb d_FF_needs_34 (by decide) (fun c_34 => ?_) (fun c_34 => ?_)
      · replace hf := fh_f c_34 hf
        refine fh_aload_n S d_FF_needs_39 rfl (lv_at hl 1 rfl) ?_
        obtain ⟨x9, e_x9, hf⟩ := fh_b hf
        refine fh_geta S hE.1 hI e_x9 (hc := rfl) (hin := in_0) (by decide) (hts _ k_126) d_FF_needs_40 ?_
        refine fh_aload_n S d_FF_needs_43 rfl (lv_at hl 1 rfl) ?_
        obtain ⟨x10, e_x10, hf⟩ := fh_b hf
        refine fh_geti S hE.1 hI e_x10 (hc := rfl) (hin := in_0) (by decide) (hts _ k_42) d_FF_needs_44 ?_
        refine fh_aload_n S d_FF_needs_47 rfl (lv_at hl 1 rfl) ?_
        obtain ⟨x11, e_x11, hf⟩ := fh_b hf
        refine fh_geti S hE.1 hI e_x11 (hc := rfl) (hin := in_0) (by decide) (hts _ k_43) d_FF_needs_48 ?_
        obtain ⟨o12, e_o12, hf⟩ := fh_b hf
        obtain ⟨r13, e_r13, hf⟩ := fh_b hf
        refine fh_callV (As := [.int x10, .int x11]) (rest := []) S fT_good hE hI e_o12 rfl (c_Dr_begin e_r13) fy_Dr_begin fst_Dr_begin k_44 ⟨rfl, rfl⟩ ⟨Nat.le_of_ble_eq_true rfl, Nat.le_of_ble_eq_true rfl⟩ ⟨Nat.zero_le _, Nat.zero_le _⟩ rfl hl.1 rfl (Nat.le_of_ble_eq_true rfl) d_FF_needs_51 (fun H locs hI => ?_)
        refine fh_aload_n S d_FF_needs_54 rfl (lv_at hl 1 rfl) ?_
        obtain ⟨x14, e_x14, hf⟩ := fh_b hf
        refine fh_geta S hE.1 hI e_x14 (hc := rfl) (hin := in_0) (by decide) (hts _ k_126) d_FF_needs_55 ?_
        refine fh_aload_n S d_FF_needs_58 rfl (lv_at hl 1 rfl) ?_
        obtain ⟨x15, e_x15, hf⟩ := fh_b hf
        refine fh_geta S hE.1 hI e_x15 (hc := rfl) (hin := in_0) (by decide) (hts _ k_45) d_FF_needs_59 ?_
        refine lv_iload_n hx hb d_FF_needs_62 rfl (lv_at hl 4 rfl) ?_
        obtain ⟨o16, e_o16, hf⟩ := fh_b hf
        obtain ⟨r17, e_r17, hf⟩ := fh_b hf
        refine fh_callV (As := [va_rf x15, .int a3]) (rest := []) S fT_good hE hI e_o16 rfl (c_Dr_goOn e_r17) fy_Dr_goOn fst_Dr_goOn k_46 ⟨rfl, rfl⟩ ⟨Nat.le_of_ble_eq_true rfl, Nat.le_of_ble_eq_true rfl⟩ ⟨Nat.zero_le _, Nat.zero_le _⟩ rfl hl.1 rfl (Nat.le_of_ble_eq_true rfl) d_FF_needs_63 (fun H locs hI => ?_)
        refine fh_aload_n S d_FF_needs_66 rfl (lv_at hl 1 rfl) ?_
        obtain ⟨x18, e_x18, hf⟩ := fh_b hf
        refine fh_geta S hE.1 hI e_x18 (hc := rfl) (hin := in_0) (by decide) (hts _ k_126) d_FF_needs_67 ?_
        refine lv_iload_n hx hb d_FF_needs_70 rfl (lv_at hl 2 rfl) ?_
        refine fh_aload S d_FF_needs_71 (lv_at hl 0 rfl) ?_
        obtain ⟨x19, e_x19, hf⟩ := fh_b hf
        refine fh_geta S hE.1 hI e_x19 (hc := rfl) (hin := in_5) (by decide) (hts _ k_124) d_FF_needs_73 ?_
        refine lv_iload_n hx hb d_FF_needs_76 rfl (lv_at hl 3 rfl) ?_
        obtain ⟨x20, e_x20, hf⟩ := fh_b hf
        refine fh_iald S hE.1 hI 0 rfl e_x20 d_FF_needs_77 ?_
        obtain ⟨o21, e_o21, hf⟩ := fh_b hf
        obtain ⟨r22, e_r22, hf⟩ := fh_b hf
        refine fh_callV (As := [.int a1, .int x20]) (rest := []) S fT_good hE hI e_o21 rfl (c_Dr_bears e_r22) fy_Dr_bears fst_Dr_bears k_98 ⟨rfl, rfl⟩ ⟨Nat.le_of_ble_eq_true rfl, Nat.le_of_ble_eq_true rfl⟩ ⟨Nat.zero_le _, Nat.zero_le _⟩ rfl hl.1 rfl (Nat.le_of_ble_eq_true rfl) d_FF_needs_78 (fun H locs hI => ?_)
        refine lv_if_eq (tgt := 88) hx hb d_FF_needs_81 (by decide) (fun c_81 => ?_) (fun c_81 => ?_)
        · replace hf := fh_t c_81 hf
          refine lv_iconst (v := 1) hx hb d_FF_needs_88 (by decide) ?_
          obtain rfl := Option.some.inj hf
          exact fh_iret S hr hk rfl hAe hI d_FF_needs_89
        · replace hf := fh_f c_81 hf
          refine lv_iconst (v := 0) hx hb d_FF_needs_84 (by decide) ?_
          refine lv_goto (tgt := 89) hx hb d_FF_needs_85 (by decide) ?_
          obtain rfl := Option.some.inj hf
          exact fh_iret S hr hk rfl hAe hI d_FF_needs_89
      · replace hf := fh_t c_34 hf
        refine lv_iconst (v := (-1)) hx hb d_FF_needs_37 (by decide) ?_
        obtain rfl := Option.some.inj hf
        exact fh_iret S hr hk rfl hAe hI d_FF_needs_38
    · replace hf := fh_t c_12 hf
      refine lv_bipush (v := (-2)) hx hb d_FF_needs_15 (by decide) ?_
      obtain rfl := Option.some.inj hf
      exact fh_iret S hr hk rfl hAe hI d_FF_needs_17
