theorem d_FF_isThere_0 : decode c0_FF_isThere 0 = .ok (.iload_n 1, 1) := by decide +kernel
theorem d_FF_isThere_1 : decode c0_FF_isThere 1 = .ok (.ifCond .lt 18, 3) := by decide +kernel
theorem d_FF_isThere_4 : decode c0_FF_isThere 4 = .ok (.iload_n 1, 1) := by decide +kernel
theorem d_FF_isThere_5 : decode c0_FF_isThere 5 = .ok (.aload_n 0, 1) := by decide +kernel
theorem d_FF_isThere_6 : decode c0_FF_isThere 6 = .ok (.getfield 10, 3) := by decide +kernel
theorem d_FF_isThere_9 : decode c0_FF_isThere 9 = .ok (.getfield 40, 3) := by decide +kernel
theorem d_FF_isThere_12 : decode c0_FF_isThere 12 = .ok (.if_icmp .ge 7, 3) := by decide +kernel
theorem d_FF_isThere_15 : decode c0_FF_isThere 15 = .ok (.iconst 1, 1) := by decide +kernel
theorem d_FF_isThere_16 : decode c0_FF_isThere 16 = .ok (.goto 4, 3) := by decide +kernel
theorem d_FF_isThere_19 : decode c0_FF_isThere 19 = .ok (.iconst 0, 1) := by decide +kernel
theorem d_FF_isThere_20 : decode c0_FF_isThere 20 = .ok (.ireturn, 1) := by decide +kernel
def f_FF_isThere (K : Nat → ClassId) (N : Nat) (o : Nat) (a1 : Int32) (h0 : fh_H) : Option (Int32 × fh_H) :=
  if a1 < 0 then (some (0, h0)) else ((fg_a h0 (some o) 0 0).bind fun x1 => (fg_i h0 x1 1 2).bind fun x2 => if x2 ≤ a1 then (some (0, h0)) else (some (1, h0)))
set_option maxHeartbeats 4000000 in
set_option maxRecDepth 100000 in
theorem c_FF_isThere {l : Launch} {D : va_G} {K : Nat → ClassId} {t : Nat → Nat} {N : Nat} {o : Nat} {a1 : Int32} {h0 : fh_H} {res : Int32 × fh_H} (hf : f_FF_isThere K N o a1 h0 = some res) : fC l D K t y_FF_isThere c0_FF_isThere 2 (some .boolean) rm_FF_isThere [.ref o, .int a1] h0 (some (.int res.1)) res.2 := by
  refine fh_body (by decide) (Nat.le_of_ble_eq_true rfl) ?_
  intro p e s m below meth c A ls S hr hk hnm hE hAe hI hl
  obtain ⟨hx, hb, hml, hown, hts⟩ := id S
  have hl : lv_has ls 2 [(0, va_rf (some o)), (1, .int a1)] := hl
  unfold f_FF_isThere at hf
  refine lv_iload_n hx hb d_FF_isThere_0 rfl (lv_at hl 1 rfl) ?_
  refine lv_if_lt (tgt := 19) hx hb d_FF_isThere_1 (by decide) (fun c_1 => ?_) (fun c_1 => ?_)
  · replace hf := fh_t c_1 hf
    refine lv_iconst (v := 0) hx hb d_FF_isThere_19 (by decide) ?_
    obtain rfl := Option.some.inj hf
    exact fh_iret S hr hk (fh_nb (Or.inl rfl)) hAe hI d_FF_isThere_20
  · replace hf := fh_f c_1 hf
    refine lv_iload_n hx hb d_FF_isThere_4 rfl (lv_at hl 1 rfl) ?_
    refine fh_aload_n S d_FF_isThere_5 rfl (lv_at hl 0 rfl) ?_
    obtain ⟨x1, e_x1, hf⟩ := fh_b hf
    refine fh_geta S hE.1 hI e_x1 (hc := rfl) (hin := in_0) (by decide) (hts _ k_45) d_FF_isThere_6 ?_
    obtain ⟨x2, e_x2, hf⟩ := fh_b hf
    refine fh_geti S hE.1 hI e_x2 (hc := rfl) (hin := in_1) (by decide) (hts _ k_47) d_FF_isThere_9 ?_
    refine lv_icmp_ge (tgt := 19) hx hb d_FF_isThere_12 (by decide) (fun c_12 => ?_) (fun c_12 => ?_)
    · replace hf := fh_t c_12 hf
      refine lv_iconst (v := 0) hx hb d_FF_isThere_19 (by decide) ?_
      obtain rfl := Option.some.inj hf
      exact fh_iret S hr hk (fh_nb (Or.inl rfl)) hAe hI d_FF_isThere_20
    · replace hf := fh_f c_12 hf
      refine lv_iconst (v := 1) hx hb d_FF_isThere_15 (by decide) ?_
      refine lv_goto (tgt := 20) hx hb d_FF_isThere_16 (by decide) ?_
      obtain rfl := Option.some.inj hf
      exact fh_iret S hr hk (fh_nb (Or.inr rfl)) hAe hI d_FF_isThere_20
theorem d_FF_change_0 : decode c0_FF_change 0 = .ok (.aload_n 0, 1) := by decide +kernel
theorem d_FF_change_1 : decode c0_FF_change 1 = .ok (.iload_n 1, 1) := by decide +kernel
theorem d_FF_change_2 : decode c0_FF_change 2 = .ok (.invokevirtual 62, 3) := by decide +kernel
theorem d_FF_change_5 : decode c0_FF_change 5 = .ok (.ifCond .eq 18, 3) := by decide +kernel
theorem d_FF_change_8 : decode c0_FF_change 8 = .ok (.iload_n 2, 1) := by decide +kernel
theorem d_FF_change_9 : decode c0_FF_change 9 = .ok (.iload_n 3, 1) := by decide +kernel
theorem d_FF_change_10 : decode c0_FF_change 10 = .ok (.iload 4, 2) := by decide +kernel
theorem d_FF_change_12 : decode c0_FF_change 12 = .ok (.iload 5, 2) := by decide +kernel
theorem d_FF_change_14 : decode c0_FF_change 14 = .ok (.iload 6, 2) := by decide +kernel
theorem d_FF_change_16 : decode c0_FF_change 16 = .ok (.iload_n 1, 1) := by decide +kernel
theorem d_FF_change_17 : decode c0_FF_change 17 = .ok (.invokestatic 43, 3) := by decide +kernel
theorem d_FF_change_20 : decode c0_FF_change 20 = .ok (.ifCond .ne 6, 3) := by decide +kernel
theorem d_FF_change_23 : decode c0_FF_change 23 = .ok (.bipush (-2), 2) := by decide +kernel
theorem d_FF_change_25 : decode c0_FF_change 25 = .ok (.ireturn, 1) := by decide +kernel
theorem d_FF_change_26 : decode c0_FF_change 26 = .ok (.aload_n 0, 1) := by decide +kernel
theorem d_FF_change_27 : decode c0_FF_change 27 = .ok (.getfield 10, 3) := by decide +kernel
theorem d_FF_change_30 : decode c0_FF_change 30 = .ok (.getfield 66, 3) := by decide +kernel
theorem d_FF_change_33 : decode c0_FF_change 33 = .ok (.iload_n 1, 1) := by decide +kernel
theorem d_FF_change_34 : decode c0_FF_change 34 = .ok (.iaload, 1) := by decide +kernel
theorem d_FF_change_35 : decode c0_FF_change 35 = .ok (.istore 7, 2) := by decide +kernel
theorem d_FF_change_37 : decode c0_FF_change 37 = .ok (.aload_n 0, 1) := by decide +kernel
theorem d_FF_change_38 : decode c0_FF_change 38 = .ok (.getfield 10, 3) := by decide +kernel
theorem d_FF_change_41 : decode c0_FF_change 41 = .ok (.iload_n 1, 1) := by decide +kernel
theorem d_FF_change_42 : decode c0_FF_change 42 = .ok (.iload_n 2, 1) := by decide +kernel
theorem d_FF_change_43 : decode c0_FF_change 43 = .ok (.iload_n 3, 1) := by decide +kernel
theorem d_FF_change_44 : decode c0_FF_change 44 = .ok (.iload 4, 2) := by decide +kernel
theorem d_FF_change_46 : decode c0_FF_change 46 = .ok (.iload 5, 2) := by decide +kernel
theorem d_FF_change_48 : decode c0_FF_change 48 = .ok (.iload 6, 2) := by decide +kernel
theorem d_FF_change_50 : decode c0_FF_change 50 = .ok (.invokevirtual 47, 3) := by decide +kernel
theorem d_FF_change_53 : decode c0_FF_change 53 = .ok (.aload_n 0, 1) := by decide +kernel
theorem d_FF_change_54 : decode c0_FF_change 54 = .ok (.invokevirtual 37, 3) := by decide +kernel
theorem d_FF_change_57 : decode c0_FF_change 57 = .ok (.iload 7, 2) := by decide +kernel
theorem d_FF_change_59 : decode c0_FF_change 59 = .ok (.ireturn, 1) := by decide +kernel
def f_FF_change (K : Nat → ClassId) (N : Nat) (o : Nat) (a1 : Int32) (a2 : Int32) (a3 : Int32) (a4 : Int32) (a5 : Int32) (a6 : Int32) (h0 : fh_H) : Option (Int32 × fh_H) :=
  (fg_o h0 (some o) 0).bind fun o1 => (f_FF_isThere K N o1 a1 h0).bind fun r2 => if r2.1 = 0 then (some ((-2), r2.2)) else ((f_FF_isStep K N a2 a3 a4 a5 a6 a1 r2.2).bind fun r3 => if r3.1 = 0 then (some ((-2), r3.2)) else ((fg_a r3.2 (some o) 0 0).bind fun x4 => (fg_a r3.2 x4 1 0).bind fun x5 => (fa_i (K 0) r3.2 x5 a1).bind fun x6 => (fg_a r3.2 (some o) 0 0).bind fun x7 => (fg_o r3.2 x7 1).bind fun o8 => (f_Pl_write K N o8 a1 a2 a3 a4 a5 a6 r3.2).bind fun r9 => (fg_o r9 (some o) 0).bind fun o10 => (f_FF_drawAll K N o10 r9).bind fun r11 => some (x6, r11)))
set_option maxHeartbeats 4000000 in
set_option maxRecDepth 100000 in
theorem c_FF_change {l : Launch} {D : va_G} {K : Nat → ClassId} {t : Nat → Nat} {N : Nat} {o : Nat} {a1 : Int32} {a2 : Int32} {a3 : Int32} {a4 : Int32} {a5 : Int32} {a6 : Int32} {h0 : fh_H} {res : Int32 × fh_H} (hf : f_FF_change K N o a1 a2 a3 a4 a5 a6 h0 = some res) : fC l D K t y_FF_change c0_FF_change 8 (some .int) rm_FF_change [.ref o, .int a1, .int a2, .int a3, .int a4, .int a5, .int a6] h0 (some (.int res.1)) res.2 := by
  refine fh_body (by decide) (Nat.le_of_ble_eq_true rfl) ?_
  intro p e s m below meth c A ls S hr hk hnm hE hAe hI hl
  obtain ⟨hx, hb, hml, hown, hts⟩ := id S
  have hl : lv_has ls 8 [(0, va_rf (some o)), (1, .int a1), (2, .int a2), (3, .int a3), (4, .int a4), (5, .int a5), (6, .int a6)] := hl
  unfold f_FF_change at hf
  refine fh_aload_n S d_FF_change_0 rfl (lv_at hl 0 rfl) ?_
  refine lv_iload_n hx hb d_FF_change_1 rfl (lv_at hl 1 rfl) ?_
  obtain ⟨o1, e_o1, hf⟩ := fh_b hf
  obtain ⟨r2, e_r2, hf⟩ := fh_b hf
  refine fh_callV (As := [.int a1]) (rest := []) S fT_good hE hI e_o1 rfl (c_FF_isThere e_r2) fy_FF_isThere fst_FF_isThere k_54 ⟨rfl, rfl⟩ ⟨Nat.le_of_ble_eq_true rfl, Nat.le_of_ble_eq_true rfl⟩ ⟨Nat.zero_le _, Nat.zero_le _⟩ rfl hl.1 rfl (Nat.le_of_ble_eq_true rfl) d_FF_change_2 (fun H locs hI => ?_)
  refine lv_if_eq (tgt := 23) hx hb d_FF_change_5 (by decide) (fun c_5 => ?_) (fun c_5 => ?_)
  · replace hf := fh_t c_5 hf
    refine lv_bipush (v := (-2)) hx hb d_FF_change_23 (by decide) ?_
    obtain rfl := Option.some.inj hf
    exact fh_iret S hr hk rfl hAe hI d_FF_change_25
  · replace hf := fh_f c_5 hf
    refine lv_iload_n hx hb d_FF_change_8 rfl (lv_at hl 2 rfl) ?_
    refine lv_iload_n hx hb d_FF_change_9 rfl (lv_at hl 3 rfl) ?_
    refine lv_iload hx hb d_FF_change_10 (lv_at hl 4 rfl) ?_
    refine lv_iload hx hb d_FF_change_12 (lv_at hl 5 rfl) ?_
    refine lv_iload hx hb d_FF_change_14 (lv_at hl 6 rfl) ?_
    refine lv_iload_n hx hb d_FF_change_16 rfl (lv_at hl 1 rfl) ?_
    obtain ⟨r3, e_r3, hf⟩ := fh_b hf
    refine fh_callS (As := [.int a2, .int a3, .int a4, .int a5, .int a6, .int a1]) (rest := []) S fT_good hE hI (c_FF_isStep e_r3) fy_FF_isStep fst_FF_isStep k_52 ⟨rfl, rfl⟩ ⟨Nat.le_of_ble_eq_true rfl, Nat.le_of_ble_eq_true rfl⟩ ⟨Nat.zero_le _, Nat.zero_le _⟩ rfl hl.1 rfl (Nat.le_of_ble_eq_true rfl) d_FF_change_17 (fun H locs hI => ?_)
    refine lv_if_ne (tgt := 26) hx hb d_FF_change_20 (by decide) (fun c_20 => ?_) (fun c_20 => ?_)
    · replace hf := fh_f c_20 hf
      refine fh_aload_n S d_FF_change_26 rfl (lv_at hl 0 rfl) ?_
      obtain ⟨x4, e_x4, hf⟩ := fh_b hf
      refine fh_geta S hE.1 hI e_x4 (hc := rfl) (hin := in_0) (by decide) (hts _ k_45) d_FF_change_27 ?_
      obtain ⟨x5, e_x5, hf⟩ := fh_b hf
      refine fh_geta S hE.1 hI e_x5 (hc := rfl) (hin := in_1) (by decide) (hts _ k_55) d_FF_change_30 ?_
      refine lv_iload_n hx hb d_FF_change_33 rfl (lv_at hl 1 rfl) ?_
      obtain ⟨x6, e_x6, hf⟩ := fh_b hf
      refine fh_iald S hE.1 hI 0 rfl e_x6 d_FF_change_34 ?_
      refine lv_istore (lv' := [(7, .int x6), (0, va_rf (some o)), (1, .int a1), (2, .int a2), (3, .int a3), (4, .int a4), (5, .int a5), (6, .int a6)]) hx hb d_FF_change_35 hl (by decide) rfl (fun ls hl => ?_)
      refine fh_aload_n S d_FF_change_37 rfl (lv_at hl 1 rfl) ?_
      obtain ⟨x7, e_x7, hf⟩ := fh_b hf
      refine fh_geta S hE.1 hI e_x7 (hc := rfl) (hin := in_0) (by decide) (hts _ k_45) d_FF_change_38 ?_
      refine lv_iload_n hx hb d_FF_change_41 rfl (lv_at hl 2 rfl) ?_
      refine lv_iload_n hx hb d_FF_change_42 rfl (lv_at hl 3 rfl) ?_
      refine lv_iload_n hx hb d_FF_change_43 rfl (lv_at hl 4 rfl) ?_
      refine lv_iload hx hb d_FF_change_44 (lv_at hl 5 rfl) ?_
      refine lv_iload hx hb d_FF_change_46 (lv_at hl 6 rfl) ?_
      refine lv_iload hx hb d_FF_change_48 (lv_at hl 7 rfl) ?_
      obtain ⟨o8, e_o8, hf⟩ := fh_b hf
      obtain ⟨r9, e_r9, hf⟩ := fh_b hf
      refine fh_callV (As := [.int a1, .int a2, .int a3, .int a4, .int a5, .int a6]) (rest := []) S fT_good hE hI e_o8 rfl (c_Pl_write e_r9) fy_Pl_write fst_Pl_write k_53 ⟨rfl, rfl⟩ ⟨Nat.le_of_ble_eq_true rfl, Nat.le_of_ble_eq_true rfl⟩ ⟨Nat.zero_le _, Nat.zero_le _⟩ rfl hl.1 rfl (Nat.le_of_ble_eq_true rfl) d_FF_change_50 (fun H locs hI => ?_)
      refine fh_aload_n S d_FF_change_53 rfl (lv_at hl 1 rfl) ?_
      obtain ⟨o10, e_o10, hf⟩ := fh_b hf
      obtain ⟨r11, e_r11, hf⟩ := fh_b hf
      refine fh_callV (As := []) (rest := []) S fT_good hE hI e_o10 rfl (c_FF_drawAll e_r11) fy_FF_drawAll fst_FF_drawAll k_49 ⟨rfl, rfl⟩ ⟨Nat.le_of_ble_eq_true rfl, Nat.le_of_ble_eq_true rfl⟩ ⟨Nat.zero_le _, Nat.zero_le _⟩ rfl hl.1 rfl (Nat.le_of_ble_eq_true rfl) d_FF_change_54 (fun H locs hI => ?_)
      refine lv_iload hx hb d_FF_change_57 (lv_at hl 0 rfl) ?_
      obtain rfl := Option.some.inj hf
      exact fh_iret S hr hk rfl hAe hI d_FF_change_59
    · replace hf := fh_t c_20 hf
      refine lv_bipush (v := (-2)) hx hb d_FF_change_23 (by decide) ?_
      obtain rfl := Option.some.inj hf
      exact fh_iret S hr hk rfl hAe hI d_FF_change_25
theorem d_FF_draw_0 : decode c0_FF_draw 0 = .ok (.iload_n 1, 1) := by decide +kernel
theorem d_FF_draw_1 : decode c0_FF_draw 1 = .ok (.iconst 1, 1) := by decide +kernel
theorem d_FF_draw_2 : decode c0_FF_draw 2 = .ok (.if_icmp .lt 19, 3) := by decide +kernel
theorem d_FF_draw_5 : decode c0_FF_draw 5 = .ok (.iload_n 1, 1) := by decide +kernel
theorem d_FF_draw_6 : decode c0_FF_draw 6 = .ok (.ldc 70, 2) := by decide +kernel
theorem d_FF_draw_8 : decode c0_FF_draw 8 = .ok (.if_icmp .gt 13, 3) := by decide +kernel
theorem d_FF_draw_11 : decode c0_FF_draw 11 = .ok (.iload_n 2, 1) := by decide +kernel
theorem d_FF_draw_12 : decode c0_FF_draw 12 = .ok (.iconst 1, 1) := by decide +kernel
theorem d_FF_draw_13 : decode c0_FF_draw 13 = .ok (.if_icmp .lt 8, 3) := by decide +kernel
theorem d_FF_draw_16 : decode c0_FF_draw 16 = .ok (.iload_n 2, 1) := by decide +kernel
theorem d_FF_draw_17 : decode c0_FF_draw 17 = .ok (.iconst 5, 1) := by decide +kernel
theorem d_FF_draw_18 : decode c0_FF_draw 18 = .ok (.if_icmp .le 6, 3) := by decide +kernel
theorem d_FF_draw_21 : decode c0_FF_draw 21 = .ok (.bipush (-2), 2) := by decide +kernel
theorem d_FF_draw_23 : decode c0_FF_draw 23 = .ok (.ireturn, 1) := by decide +kernel
theorem d_FF_draw_24 : decode c0_FF_draw 24 = .ok (.aload_n 0, 1) := by decide +kernel
theorem d_FF_draw_25 : decode c0_FF_draw 25 = .ok (.iload_n 1, 1) := by decide +kernel
theorem d_FF_draw_26 : decode c0_FF_draw 26 = .ok (.putfield 30, 3) := by decide +kernel
theorem d_FF_draw_29 : decode c0_FF_draw 29 = .ok (.aload_n 0, 1) := by decide +kernel
theorem d_FF_draw_30 : decode c0_FF_draw 30 = .ok (.iload_n 2, 1) := by decide +kernel
theorem d_FF_draw_31 : decode c0_FF_draw 31 = .ok (.putfield 34, 3) := by decide +kernel
theorem d_FF_draw_34 : decode c0_FF_draw 34 = .ok (.aload_n 0, 1) := by decide +kernel
theorem d_FF_draw_35 : decode c0_FF_draw 35 = .ok (.invokevirtual 37, 3) := by decide +kernel
theorem d_FF_draw_38 : decode c0_FF_draw 38 = .ok (.aload_n 0, 1) := by decide +kernel
theorem d_FF_draw_39 : decode c0_FF_draw 39 = .ok (.getfield 19, 3) := by decide +kernel
theorem d_FF_draw_42 : decode c0_FF_draw 42 = .ok (.getfield 51, 3) := by decide +kernel
theorem d_FF_draw_45 : decode c0_FF_draw 45 = .ok (.getfield 71, 3) := by decide +kernel
theorem d_FF_draw_48 : decode c0_FF_draw 48 = .ok (.ireturn, 1) := by decide +kernel
def f_FF_draw (K : Nat → ClassId) (N : Nat) (o : Nat) (a1 : Int32) (a2 : Int32) (h0 : fh_H) : Option (Int32 × fh_H) :=
  if a1 < 1 then (some ((-2), h0)) else (if 1000000 < a1 then (some ((-2), h0)) else (if a2 < 1 then (some ((-2), h0)) else (if a2 ≤ 5 then ((fp_v h0 (some o) 0 3 (.int a1)).bind fun h1 => (fp_v h1 (some o) 0 4 (.int a2)).bind fun h2 => (fg_o h2 (some o) 0).bind fun o3 => (f_FF_drawAll K N o3 h2).bind fun r4 => (fg_a r4 (some o) 0 1).bind fun x5 => (fg_a r4 x5 2 0).bind fun x6 => (fg_i r4 x6 3 1).bind fun x7 => some (x7, r4)) else (some ((-2), h0)))))
set_option maxHeartbeats 4000000 in
set_option maxRecDepth 100000 in
theorem c_FF_draw {l : Launch} {D : va_G} {K : Nat → ClassId} {t : Nat → Nat} {N : Nat} {o : Nat} {a1 : Int32} {a2 : Int32} {h0 : fh_H} {res : Int32 × fh_H} (hf : f_FF_draw K N o a1 a2 h0 = some res) : fC l D K t y_FF_draw c0_FF_draw 3 (some .int) rm_FF_draw [.ref o, .int a1, .int a2] h0 (some (.int res.1)) res.2 := by
  refine fh_body (by decide) (Nat.le_of_ble_eq_true rfl) ?_
  intro p e s m below meth c A ls S hr hk hnm hE hAe hI hl
  obtain ⟨hx, hb, hml, hown, hts⟩ := id S
  have hl : lv_has ls 3 [(0, va_rf (some o)), (1, .int a1), (2, .int a2)] := hl
  unfold f_FF_draw at hf
  refine lv_iload_n hx hb d_FF_draw_0 rfl (lv_at hl 1 rfl) ?_
  refine lv_iconst (v := 1) hx hb d_FF_draw_1 (by decide) ?_
  refine lv_icmp_lt (tgt := 21) hx hb d_FF_draw_2 (by decide) (fun c_2 => ?_) (fun c_2 => ?_)
  · replace hf := fh_t c_2 hf
    refine lv_bipush (v := (-2)) hx hb d_FF_draw_21 (by decide) ?_
    obtain rfl := Option.some.inj hf
    exact fh_iret S hr hk rfl hAe hI d_FF_draw_23
  · replace hf := fh_f c_2 hf
    refine lv_iload_n hx hb d_FF_draw_5 rfl (lv_at hl 1 rfl) ?_
    refine lv_ldc hx hb hown (hts _ k_57) d_FF_draw_6 ?_
    refine lv_icmp_gt (tgt := 21) hx hb d_FF_draw_8 (by decide) (fun c_8 => ?_) (fun c_8 => ?_)
    · replace hf := fh_t c_8 hf
      refine lv_bipush (v := (-2)) hx hb d_FF_draw_21 (by decide) ?_
      obtain rfl := Option.some.inj hf
      exact fh_iret S hr hk rfl hAe hI d_FF_draw_23
    · replace hf := fh_f c_8 hf
      refine lv_iload_n hx hb d_FF_draw_11 rfl (lv_at hl 2 rfl) ?_
      refine lv_iconst (v := 1) hx hb d_FF_draw_12 (by decide) ?_
      refine lv_icmp_lt (tgt := 21) hx hb d_FF_draw_13 (by decide) (fun c_13 => ?_) (fun c_13 => ?_)
      · replace hf := fh_t c_13 hf
        refine lv_bipush (v := (-2)) hx hb d_FF_draw_21 (by decide) ?_
        obtain rfl := Option.some.inj hf
        exact fh_iret S hr hk rfl hAe hI d_FF_draw_23
      · replace hf := fh_f c_13 hf
        refine lv_iload_n hx hb d_FF_draw_16 rfl (lv_at hl 2 rfl) ?_
        refine lv_iconst (v := 5) hx hb d_FF_draw_17 (by decide) ?_
        refine lv_icmp_le (tgt := 24) hx hb d_FF_draw_18 (by decide) (fun c_18 => ?_) (fun c_18 => ?_)
        · replace hf := fh_t c_18 hf
          refine fh_aload_n S d_FF_draw_24 rfl (lv_at hl 0 rfl) ?_
          refine lv_iload_n hx hb d_FF_draw_25 rfl (lv_at hl 1 rfl) ?_
          obtain ⟨h1, e_h1, hf⟩ := fh_b hf
          refine fh_putv S hE.1 hI e_h1 (hc := rfl) (hin := in_0) tok_0 nok_0 (by decide) (hts _ k_42) rfl rfl rfl d_FF_draw_26 (fun H locs hI => ?_)
          refine fh_aload_n S d_FF_draw_29 rfl (lv_at hl 0 rfl) ?_
          refine lv_iload_n hx hb d_FF_draw_30 rfl (lv_at hl 2 rfl) ?_
          obtain ⟨h2, e_h2, hf⟩ := fh_b hf
          refine fh_putv S hE.1 hI e_h2 (hc := rfl) (hin := in_0) tok_0 nok_0 (by decide) (hts _ k_43) rfl rfl rfl d_FF_draw_31 (fun H locs hI => ?_)
          refine fh_aload_n S d_FF_draw_34 rfl (lv_at hl 0 rfl) ?_
          obtain ⟨o3, e_o3, hf⟩ := fh_b hf
          obtain ⟨r4, e_r4, hf⟩ := fh_b hf
          refine fh_callV (As := []) (rest := []) S fT_good hE hI e_o3 rfl (c_FF_drawAll e_r4) fy_FF_drawAll fst_FF_drawAll k_49 ⟨rfl, rfl⟩ ⟨Nat.le_of_ble_eq_true rfl, Nat.le_of_ble_eq_true rfl⟩ ⟨Nat.zero_le _, Nat.zero_le _⟩ rfl hl.1 rfl (Nat.le_of_ble_eq_true rfl) d_FF_draw_35 (fun H locs hI => ?_)
          refine fh_aload_n S d_FF_draw_38 rfl (lv_at hl 0 rfl) ?_
          obtain ⟨x5, e_x5, hf⟩ := fh_b hf
          refine fh_geta S hE.1 hI e_x5 (hc := rfl) (hin := in_0) (by decide) (hts _ k_40) d_FF_draw_39 ?_
          obtain ⟨x6, e_x6, hf⟩ := fh_b hf
          refine fh_geta S hE.1 hI e_x6 (hc := rfl) (hin := in_2) (by decide) (hts _ k_41) d_FF_draw_42 ?_
          obtain ⟨x7, e_x7, hf⟩ := fh_b hf
          refine fh_geti S hE.1 hI e_x7 (hc := rfl) (hin := in_3) (by decide) (hts _ k_56) d_FF_draw_45 ?_
          obtain rfl := Option.some.inj hf
          exact fh_iret S hr hk rfl hAe hI d_FF_draw_48
        · replace hf := fh_f c_18 hf
          refine lv_bipush (v := (-2)) hx hb d_FF_draw_21 (by decide) ?_
          obtain rfl := Option.some.inj hf
          exact fh_iret S hr hk rfl hAe hI d_FF_draw_23
theorem d_Fs_isNew_0 : decode c0_Fs_isNew 0 = .ok (.aload_n 0, 1) := by decide +kernel
theorem d_Fs_isNew_1 : decode c0_Fs_isNew 1 = .ok (.getfield 52, 3) := by decide +kernel
theorem d_Fs_isNew_4 : decode c0_Fs_isNew 4 = .ok (.iload_n 1, 1) := by decide +kernel
theorem d_Fs_isNew_5 : decode c0_Fs_isNew 5 = .ok (.ishr, 1) := by decide +kernel
theorem d_Fs_isNew_6 : decode c0_Fs_isNew 6 = .ok (.iconst 1, 1) := by decide +kernel
theorem d_Fs_isNew_7 : decode c0_Fs_isNew 7 = .ok (.iand, 1) := by decide +kernel
theorem d_Fs_isNew_8 : decode c0_Fs_isNew 8 = .ok (.ifCond .ne 7, 3) := by decide +kernel
theorem d_Fs_isNew_11 : decode c0_Fs_isNew 11 = .ok (.iconst 1, 1) := by decide +kernel
theorem d_Fs_isNew_12 : decode c0_Fs_isNew 12 = .ok (.goto 4, 3) := by decide +kernel
theorem d_Fs_isNew_15 : decode c0_Fs_isNew 15 = .ok (.iconst 0, 1) := by decide +kernel
theorem d_Fs_isNew_16 : decode c0_Fs_isNew 16 = .ok (.istore_n 2, 1) := by decide +kernel
theorem d_Fs_isNew_17 : decode c0_Fs_isNew 17 = .ok (.aload_n 0, 1) := by decide +kernel
theorem d_Fs_isNew_18 : decode c0_Fs_isNew 18 = .ok (.dup, 1) := by decide +kernel
theorem d_Fs_isNew_19 : decode c0_Fs_isNew 19 = .ok (.getfield 52, 3) := by decide +kernel
theorem d_Fs_isNew_22 : decode c0_Fs_isNew 22 = .ok (.iconst 1, 1) := by decide +kernel
theorem d_Fs_isNew_23 : decode c0_Fs_isNew 23 = .ok (.iload_n 1, 1) := by decide +kernel
theorem d_Fs_isNew_24 : decode c0_Fs_isNew 24 = .ok (.ishl, 1) := by decide +kernel
theorem d_Fs_isNew_25 : decode c0_Fs_isNew 25 = .ok (.ior, 1) := by decide +kernel
theorem d_Fs_isNew_26 : decode c0_Fs_isNew 26 = .ok (.putfield 52, 3) := by decide +kernel
theorem d_Fs_isNew_29 : decode c0_Fs_isNew 29 = .ok (.iload_n 2, 1) := by decide +kernel
theorem d_Fs_isNew_30 : decode c0_Fs_isNew 30 = .ok (.ireturn, 1) := by decide +kernel
def b_Fs_isNew_16 (K : Nat → ClassId) (N : Nat) (o : Nat) (v1 : Int32) (w0 : Int32) (h : fh_H) : Option (Int32 × fh_H) :=
  (fg_i h (some o) 2 8).bind fun x1 => (fp_v h (some o) 2 8 (.int (x1 ||| ((1 : Int32) <<< (v1 &&& 31))))).bind fun h2 => fz w0 h2
def f_Fs_isNew (K : Nat → ClassId) (N : Nat) (o : Nat) (a1 : Int32) (h0 : fh_H) : Option (Int32 × fh_H) :=
  (fg_i h0 (some o) 2 8).bind fun x1 => if ((x1 >>> (a1 &&& 31)) &&& 1) = 0 then (b_Fs_isNew_16 K N o a1 1 h0) else (b_Fs_isNew_16 K N o a1 0 h0)
set_option maxHeartbeats 4000000 in
set_option maxRecDepth 100000 in
theorem c_Fs_isNew {l : Launch} {D : va_G} {K : Nat → ClassId} {t : Nat → Nat} {N : Nat} {o : Nat} {a1 : Int32} {h0 : fh_H} {res : Int32 × fh_H} (hf : f_Fs_isNew K N o a1 h0 = some res) : fC l D K t y_Fs_isNew c0_Fs_isNew 3 (some .boolean) rm_Fs_isNew [.ref o, .int a1] h0 (some (.int res.1)) res.2 := by
  refine fh_body (by decide) (Nat.le_of_ble_eq_true rfl) ?_
  intro p e s m below meth c A ls S hr hk hnm hE hAe hI hl
  obtain ⟨hx, hb, hml, hown, hts⟩ := id S
  have hl : lv_has ls 3 [(0, va_rf (some o)), (1, .int a1)] := hl
  have B16 : ∀ (v1 : Int32) (w0 : Int32) (h : fh_H) (H : Heap) (locs : List Loc) (ls : Array Slot), lv_has ls 3 [(0, va_rf (some o)), (1, .int v1)] → fh_I D classes A s.heap h H locs → b_Fs_isNew_16 K N o v1 w0 h = some res → W p l e rm_Fs_isNew s m [.ref o, .int a1].toArray below meth c H locs 0 0 (MQ below (fh_Q D classes h0 s.heap.size (some (.int res.1)) res.2) [.ref o, .int a1].toArray s 0 0 A) (F0 m 16 ls [.int w0]) := by
    intro v1 w0 h H locs ls hl hI hf
    unfold b_Fs_isNew_16 at hf
    refine lv_istore_n (lv' := [(2, .int w0), (0, va_rf (some o)), (1, .int v1)]) hx hb d_Fs_isNew_16 rfl hl (by decide) rfl (fun ls hl => ?_)
    refine fh_aload_n S d_Fs_isNew_17 rfl (lv_at hl 1 rfl) ?_
    refine lv_dup hx hb d_Fs_isNew_18 fh_rfcat ?_
    obtain ⟨x1, e_x1, hf⟩ := fh_b hf
    refine fh_geti S hE.1 hI e_x1 (hc := rfl) (hin := in_2) (by decide) (hts _ k_39) d_Fs_isNew_19 ?_
    refine lv_iconst (v := 1) hx hb d_Fs_isNew_22 (by decide) ?_
    refine lv_iload_n hx hb d_Fs_isNew_23 rfl (lv_at hl 2 rfl) ?_
    refine lv_ishl hx hb d_Fs_isNew_24 ?_
    refine lv_ior hx hb d_Fs_isNew_25 ?_
    obtain ⟨h2, e_h2, hf⟩ := fh_b hf
    refine fh_putv S hE.1 hI e_h2 (hc := rfl) (hin := in_2) tok_2 nok_2 (by decide) (hts _ k_39) rfl rfl rfl d_Fs_isNew_26 (fun H locs hI => ?_)
    refine lv_iload_n hx hb d_Fs_isNew_29 rfl (lv_at hl 0 rfl) ?_
    obtain ⟨hz, rfl⟩ := fz_s hf
    exact fh_iret S hr hk (fh_nb hz) hAe hI d_Fs_isNew_30
  unfold f_Fs_isNew at hf
  refine fh_aload_n S d_Fs_isNew_0 rfl (lv_at hl 0 rfl) ?_
  obtain ⟨x1, e_x1, hf⟩ := fh_b hf
  refine fh_geti S hE.1 hI e_x1 (hc := rfl) (hin := in_2) (by decide) (hts _ k_39) d_Fs_isNew_1 ?_
  refine lv_iload_n hx hb d_Fs_isNew_4 rfl (lv_at hl 1 rfl) ?_
  refine lv_ishr hx hb d_Fs_isNew_5 ?_
  refine lv_iconst (v := 1) hx hb d_Fs_isNew_6 (by decide) ?_
  refine lv_iand hx hb d_Fs_isNew_7 ?_
  refine lv_if_ne (tgt := 15) hx hb d_Fs_isNew_8 (by decide) (fun c_8 => ?_) (fun c_8 => ?_)
  · replace hf := fh_f c_8 hf
    refine lv_iconst (v := 0) hx hb d_Fs_isNew_15 (by decide) ?_
    exact B16 a1 0 h0 _ _ _ (lv_sub hl [0, 1] rfl) hI hf
  · replace hf := fh_t c_8 hf
    refine lv_iconst (v := 1) hx hb d_Fs_isNew_11 (by decide) ?_
    refine lv_goto (tgt := 16) hx hb d_Fs_isNew_12 (by decide) ?_
    exact B16 a1 1 h0 _ _ _ (lv_sub hl [0, 1] rfl) hI hf
theorem d_FF_pack_0 : decode c0_FF_pack 0 = .ok (.iload_n 0, 1) := by decide +kernel
theorem d_FF_pack_1 : decode c0_FF_pack 1 = .ok (.iload_n 1, 1) := by decide +kernel
theorem d_FF_pack_2 : decode c0_FF_pack 2 = .ok (.iconst 4, 1) := by decide +kernel
theorem d_FF_pack_3 : decode c0_FF_pack 3 = .ok (.ishl, 1) := by decide +kernel
theorem d_FF_pack_4 : decode c0_FF_pack 4 = .ok (.ior, 1) := by decide +kernel
theorem d_FF_pack_5 : decode c0_FF_pack 5 = .ok (.iload_n 2, 1) := by decide +kernel
theorem d_FF_pack_6 : decode c0_FF_pack 6 = .ok (.bipush 8, 2) := by decide +kernel
theorem d_FF_pack_8 : decode c0_FF_pack 8 = .ok (.ishl, 1) := by decide +kernel
theorem d_FF_pack_9 : decode c0_FF_pack 9 = .ok (.ior, 1) := by decide +kernel
theorem d_FF_pack_10 : decode c0_FF_pack 10 = .ok (.ireturn, 1) := by decide +kernel
def f_FF_pack (K : Nat → ClassId) (N : Nat) (a0 : Int32) (a1 : Int32) (a2 : Int32) (h0 : fh_H) : Option (Int32 × fh_H) :=
  (some ((a0 ||| (a1 <<< ((4 : Int32) &&& 31))) ||| (a2 <<< ((8 : Int32) &&& 31)))).bind fun x1 => some (x1, h0)
set_option maxHeartbeats 4000000 in
set_option maxRecDepth 100000 in
theorem c_FF_pack {l : Launch} {D : va_G} {K : Nat → ClassId} {t : Nat → Nat} {N : Nat} {a0 : Int32} {a1 : Int32} {a2 : Int32} {h0 : fh_H} {res : Int32 × fh_H} (hf : f_FF_pack K N a0 a1 a2 h0 = some res) : fC l D K t y_FF_pack c0_FF_pack 3 (some .int) rm_FF_pack [.int a0, .int a1, .int a2] h0 (some (.int res.1)) res.2 := by
  refine fh_body (by decide) (Nat.le_of_ble_eq_true rfl) ?_
  intro p e s m below meth c A ls S hr hk hnm hE hAe hI hl
  obtain ⟨hx, hb, hml, hown, hts⟩ := id S
  have hl : lv_has ls 3 [(0, .int a0), (1, .int a1), (2, .int a2)] := hl
  unfold f_FF_pack at hf
  refine lv_iload_n hx hb d_FF_pack_0 rfl (lv_at hl 0 rfl) ?_
  refine lv_iload_n hx hb d_FF_pack_1 rfl (lv_at hl 1 rfl) ?_
  refine lv_iconst (v := 4) hx hb d_FF_pack_2 (by decide) ?_
  refine lv_ishl hx hb d_FF_pack_3 ?_
  refine lv_ior hx hb d_FF_pack_4 ?_
  refine lv_iload_n hx hb d_FF_pack_5 rfl (lv_at hl 2 rfl) ?_
  refine lv_bipush (v := 8) hx hb d_FF_pack_6 (by decide) ?_
  refine lv_ishl hx hb d_FF_pack_8 ?_
  refine lv_ior hx hb d_FF_pack_9 ?_
  obtain ⟨x1, e_x1, hf⟩ := fh_b hf
  refine fh_topi e_x1 ?_
  obtain rfl := Option.some.inj hf
  exact fh_iret S hr hk rfl hAe hI d_FF_pack_10
theorem d_FF_unpack_0 : decode c0_FF_unpack 0 = .ok (.iload_n 0, 1) := by decide +kernel
theorem d_FF_unpack_1 : decode c0_FF_unpack 1 = .ok (.iload_n 1, 1) := by decide +kernel
theorem d_FF_unpack_2 : decode c0_FF_unpack 2 = .ok (.iconst 4, 1) := by decide +kernel
theorem d_FF_unpack_3 : decode c0_FF_unpack 3 = .ok (.imul, 1) := by decide +kernel
theorem d_FF_unpack_4 : decode c0_FF_unpack 4 = .ok (.ishr, 1) := by decide +kernel
theorem d_FF_unpack_5 : decode c0_FF_unpack 5 = .ok (.bipush 15, 2) := by decide +kernel
theorem d_FF_unpack_7 : decode c0_FF_unpack 7 = .ok (.iand, 1) := by decide +kernel
theorem d_FF_unpack_8 : decode c0_FF_unpack 8 = .ok (.ireturn, 1) := by decide +kernel
def f_FF_unpack (K : Nat → ClassId) (N : Nat) (a0 : Int32) (a1 : Int32) (h0 : fh_H) : Option (Int32 × fh_H) :=
  some ((a0 >>> ((a1 * 4) &&& 31)) &&& 15, h0)
set_option maxHeartbeats 4000000 in
set_option maxRecDepth 100000 in
theorem c_FF_unpack {l : Launch} {D : va_G} {K : Nat → ClassId} {t : Nat → Nat} {N : Nat} {a0 : Int32} {a1 : Int32} {h0 : fh_H} {res : Int32 × fh_H} (hf : f_FF_unpack K N a0 a1 h0 = some res) : fC l D K t y_FF_unpack c0_FF_unpack 2 (some .int) rm_FF_unpack [.int a0, .int a1] h0 (some (.int res.1)) res.2 := by
  refine fh_body (by decide) (Nat.le_of_ble_eq_true rfl) ?_
  intro p e s m below meth c A ls S hr hk hnm hE hAe hI hl
  obtain ⟨hx, hb, hml, hown, hts⟩ := id S
  have hl : lv_has ls 2 [(0, .int a0), (1, .int a1)] := hl
  unfold f_FF_unpack at hf
  refine lv_iload_n hx hb d_FF_unpack_0 rfl (lv_at hl 0 rfl) ?_
  refine lv_iload_n hx hb d_FF_unpack_1 rfl (lv_at hl 1 rfl) ?_
  refine lv_iconst (v := 4) hx hb d_FF_unpack_2 (by decide) ?_
  refine lv_imul hx hb d_FF_unpack_3 ?_
  refine lv_ishr hx hb d_FF_unpack_4 ?_
  refine lv_bipush (v := 15) hx hb d_FF_unpack_5 (by decide) ?_
  refine lv_iand hx hb d_FF_unpack_7 ?_
  obtain rfl := Option.some.inj hf
  exact fh_iret S hr hk rfl hAe hI d_FF_unpack_8
theorem d_Fi_dot_0 : decode c0_Fi_dot 0 = .ok (.aload_n 0, 1) := by decide +kernel
theorem d_Fi_dot_1 : decode c0_Fi_dot 1 = .ok (.getfield 9, 3) := by decide +kernel
theorem d_Fi_dot_4 : decode c0_Fi_dot 4 = .ok (.iload_n 2, 1) := by decide +kernel
theorem d_Fi_dot_5 : decode c0_Fi_dot 5 = .ok (.iaload, 1) := by decide +kernel
theorem d_Fi_dot_6 : decode c0_Fi_dot 6 = .ok (.aload_n 0, 1) := by decide +kernel
theorem d_Fi_dot_7 : decode c0_Fi_dot 7 = .ok (.getfield 9, 3) := by decide +kernel
theorem d_Fi_dot_10 : decode c0_Fi_dot 10 = .ok (.iload_n 1, 1) := by decide +kernel
theorem d_Fi_dot_11 : decode c0_Fi_dot 11 = .ok (.iaload, 1) := by decide +kernel
theorem d_Fi_dot_12 : decode c0_Fi_dot 12 = .ok (.isub, 1) := by decide +kernel
theorem d_Fi_dot_13 : decode c0_Fi_dot 13 = .ok (.i2l, 1) := by decide +kernel
theorem d_Fi_dot_14 : decode c0_Fi_dot 14 = .ok (.aload_n 0, 1) := by decide +kernel
theorem d_Fi_dot_15 : decode c0_Fi_dot 15 = .ok (.getfield 9, 3) := by decide +kernel
theorem d_Fi_dot_18 : decode c0_Fi_dot 18 = .ok (.iload 4, 2) := by decide +kernel
theorem d_Fi_dot_20 : decode c0_Fi_dot 20 = .ok (.iaload, 1) := by decide +kernel
theorem d_Fi_dot_21 : decode c0_Fi_dot 21 = .ok (.aload_n 0, 1) := by decide +kernel
theorem d_Fi_dot_22 : decode c0_Fi_dot 22 = .ok (.getfield 9, 3) := by decide +kernel
theorem d_Fi_dot_25 : decode c0_Fi_dot 25 = .ok (.iload_n 3, 1) := by decide +kernel
theorem d_Fi_dot_26 : decode c0_Fi_dot 26 = .ok (.iaload, 1) := by decide +kernel
theorem d_Fi_dot_27 : decode c0_Fi_dot 27 = .ok (.isub, 1) := by decide +kernel
theorem d_Fi_dot_28 : decode c0_Fi_dot 28 = .ok (.i2l, 1) := by decide +kernel
theorem d_Fi_dot_29 : decode c0_Fi_dot 29 = .ok (.lmul, 1) := by decide +kernel
theorem d_Fi_dot_30 : decode c0_Fi_dot 30 = .ok (.aload_n 0, 1) := by decide +kernel
theorem d_Fi_dot_31 : decode c0_Fi_dot 31 = .ok (.getfield 15, 3) := by decide +kernel
theorem d_Fi_dot_34 : decode c0_Fi_dot 34 = .ok (.iload_n 2, 1) := by decide +kernel
theorem d_Fi_dot_35 : decode c0_Fi_dot 35 = .ok (.iaload, 1) := by decide +kernel
theorem d_Fi_dot_36 : decode c0_Fi_dot 36 = .ok (.aload_n 0, 1) := by decide +kernel
theorem d_Fi_dot_37 : decode c0_Fi_dot 37 = .ok (.getfield 15, 3) := by decide +kernel
theorem d_Fi_dot_40 : decode c0_Fi_dot 40 = .ok (.iload_n 1, 1) := by decide +kernel
theorem d_Fi_dot_41 : decode c0_Fi_dot 41 = .ok (.iaload, 1) := by decide +kernel
theorem d_Fi_dot_42 : decode c0_Fi_dot 42 = .ok (.isub, 1) := by decide +kernel
theorem d_Fi_dot_43 : decode c0_Fi_dot 43 = .ok (.i2l, 1) := by decide +kernel
theorem d_Fi_dot_44 : decode c0_Fi_dot 44 = .ok (.aload_n 0, 1) := by decide +kernel
theorem d_Fi_dot_45 : decode c0_Fi_dot 45 = .ok (.getfield 15, 3) := by decide +kernel
theorem d_Fi_dot_48 : decode c0_Fi_dot 48 = .ok (.iload 4, 2) := by decide +kernel
theorem d_Fi_dot_50 : decode c0_Fi_dot 50 = .ok (.iaload, 1) := by decide +kernel
theorem d_Fi_dot_51 : decode c0_Fi_dot 51 = .ok (.aload_n 0, 1) := by decide +kernel
theorem d_Fi_dot_52 : decode c0_Fi_dot 52 = .ok (.getfield 15, 3) := by decide +kernel
theorem d_Fi_dot_55 : decode c0_Fi_dot 55 = .ok (.iload_n 3, 1) := by decide +kernel
theorem d_Fi_dot_56 : decode c0_Fi_dot 56 = .ok (.iaload, 1) := by decide +kernel
theorem d_Fi_dot_57 : decode c0_Fi_dot 57 = .ok (.isub, 1) := by decide +kernel
theorem d_Fi_dot_58 : decode c0_Fi_dot 58 = .ok (.i2l, 1) := by decide +kernel
theorem d_Fi_dot_59 : decode c0_Fi_dot 59 = .ok (.lmul, 1) := by decide +kernel
theorem d_Fi_dot_60 : decode c0_Fi_dot 60 = .ok (.ladd, 1) := by decide +kernel
theorem d_Fi_dot_61 : decode c0_Fi_dot 61 = .ok (.ldc2_w 88, 3) := by decide +kernel
theorem d_Fi_dot_64 : decode c0_Fi_dot 64 = .ok (.lrem, 1) := by decide +kernel
theorem d_Fi_dot_65 : decode c0_Fi_dot 65 = .ok (.lreturn, 1) := by decide +kernel
def f_Fi_dot (K : Nat → ClassId) (N : Nat) (o : Nat) (a1 : Int32) (a2 : Int32) (a3 : Int32) (a4 : Int32) (h0 : fh_H) : Option (Int64 × fh_H) :=
  (fg_a h0 (some o) 4 0).bind fun x1 => (fa_i (K 0) h0 x1 a2).bind fun x2 => (fg_a h0 (some o) 4 0).bind fun x3 => (fa_i (K 0) h0 x3 a1).bind fun x4 => (fg_a h0 (some o) 4 0).bind fun x5 => (fa_i (K 0) h0 x5 a4).bind fun x6 => (fg_a h0 (some o) 4 0).bind fun x7 => (fa_i (K 0) h0 x7 a3).bind fun x8 => (fg_a h0 (some o) 4 1).bind fun x9 => (fa_i (K 0) h0 x9 a2).bind fun x10 => (fg_a h0 (some o) 4 1).bind fun x11 => (fa_i (K 0) h0 x11 a1).bind fun x12 => (fg_a h0 (some o) 4 1).bind fun x13 => (fa_i (K 0) h0 x13 a4).bind fun x14 => (fg_a h0 (some o) 4 1).bind fun x15 => (fa_i (K 0) h0 x15 a3).bind fun x16 => (some ((((x2 - x4).toInt64) * ((x6 - x8).toInt64)) + (((x10 - x12).toInt64) * ((x14 - x16).toInt64)))).bind fun x17 => some (fr_l x17 1000003, h0)
set_option maxHeartbeats 4000000 in
set_option maxRecDepth 100000 in
theorem c_Fi_dot {l : Launch} {D : va_G} {K : Nat → ClassId} {t : Nat → Nat} {N : Nat} {o : Nat} {a1 : Int32} {a2 : Int32} {a3 : Int32} {a4 : Int32} {h0 : fh_H} {res : Int64 × fh_H} (hf : f_Fi_dot K N o a1 a2 a3 a4 h0 = some res) : fC l D K t y_Fi_dot c0_Fi_dot 5 (some .long) rm_Fi_dot [.ref o, .int a1, .int a2, .int a3, .int a4] h0 (some (.long res.1)) res.2 := by
  refine fh_body (by decide) (Nat.le_of_ble_eq_true rfl) ?_
  intro p e s m below meth c A ls S hr hk hnm hE hAe hI hl
  obtain ⟨hx, hb, hml, hown, hts⟩ := id S
  have hl : lv_has ls 5 [(0, va_rf (some o)), (1, .int a1), (2, .int a2), (3, .int a3), (4, .int a4)] := hl
  unfold f_Fi_dot at hf
  refine fh_aload_n S d_Fi_dot_0 rfl (lv_at hl 0 rfl) ?_
  obtain ⟨x1, e_x1, hf⟩ := fh_b hf
  refine fh_geta S hE.1 hI e_x1 (hc := rfl) (hin := in_4) (by decide) (hts _ k_15) d_Fi_dot_1 ?_
  refine lv_iload_n hx hb d_Fi_dot_4 rfl (lv_at hl 2 rfl) ?_
  obtain ⟨x2, e_x2, hf⟩ := fh_b hf
  refine fh_iald S hE.1 hI 0 rfl e_x2 d_Fi_dot_5 ?_
  refine fh_aload_n S d_Fi_dot_6 rfl (lv_at hl 0 rfl) ?_
  obtain ⟨x3, e_x3, hf⟩ := fh_b hf
  refine fh_geta S hE.1 hI e_x3 (hc := rfl) (hin := in_4) (by decide) (hts _ k_15) d_Fi_dot_7 ?_
  refine lv_iload_n hx hb d_Fi_dot_10 rfl (lv_at hl 1 rfl) ?_
  obtain ⟨x4, e_x4, hf⟩ := fh_b hf
  refine fh_iald S hE.1 hI 0 rfl e_x4 d_Fi_dot_11 ?_
  refine lv_isub hx hb d_Fi_dot_12 ?_
  refine lv_i2l hx hb d_Fi_dot_13 rfl ?_
  refine fh_aload_n S d_Fi_dot_14 rfl (lv_at hl 0 rfl) ?_
  obtain ⟨x5, e_x5, hf⟩ := fh_b hf
  refine fh_geta S hE.1 hI e_x5 (hc := rfl) (hin := in_4) (by decide) (hts _ k_15) d_Fi_dot_15 ?_
  refine lv_iload hx hb d_Fi_dot_18 (lv_at hl 4 rfl) ?_
  obtain ⟨x6, e_x6, hf⟩ := fh_b hf
  refine fh_iald S hE.1 hI 0 rfl e_x6 d_Fi_dot_20 ?_
  refine fh_aload_n S d_Fi_dot_21 rfl (lv_at hl 0 rfl) ?_
  obtain ⟨x7, e_x7, hf⟩ := fh_b hf
  refine fh_geta S hE.1 hI e_x7 (hc := rfl) (hin := in_4) (by decide) (hts _ k_15) d_Fi_dot_22 ?_
  refine lv_iload_n hx hb d_Fi_dot_25 rfl (lv_at hl 3 rfl) ?_
  obtain ⟨x8, e_x8, hf⟩ := fh_b hf
  refine fh_iald S hE.1 hI 0 rfl e_x8 d_Fi_dot_26 ?_
  refine lv_isub hx hb d_Fi_dot_27 ?_
  refine lv_i2l hx hb d_Fi_dot_28 rfl ?_
  refine lv_lmul hx hb d_Fi_dot_29 ?_
  refine fh_aload_n S d_Fi_dot_30 rfl (lv_at hl 0 rfl) ?_
  obtain ⟨x9, e_x9, hf⟩ := fh_b hf
  refine fh_geta S hE.1 hI e_x9 (hc := rfl) (hin := in_4) (by decide) (hts _ k_16) d_Fi_dot_31 ?_
  refine lv_iload_n hx hb d_Fi_dot_34 rfl (lv_at hl 2 rfl) ?_
  obtain ⟨x10, e_x10, hf⟩ := fh_b hf
  refine fh_iald S hE.1 hI 0 rfl e_x10 d_Fi_dot_35 ?_
  refine fh_aload_n S d_Fi_dot_36 rfl (lv_at hl 0 rfl) ?_
  obtain ⟨x11, e_x11, hf⟩ := fh_b hf
  refine fh_geta S hE.1 hI e_x11 (hc := rfl) (hin := in_4) (by decide) (hts _ k_16) d_Fi_dot_37 ?_
  refine lv_iload_n hx hb d_Fi_dot_40 rfl (lv_at hl 1 rfl) ?_
  obtain ⟨x12, e_x12, hf⟩ := fh_b hf
  refine fh_iald S hE.1 hI 0 rfl e_x12 d_Fi_dot_41 ?_
  refine lv_isub hx hb d_Fi_dot_42 ?_
  refine lv_i2l hx hb d_Fi_dot_43 rfl ?_
  refine fh_aload_n S d_Fi_dot_44 rfl (lv_at hl 0 rfl) ?_
  obtain ⟨x13, e_x13, hf⟩ := fh_b hf
  refine fh_geta S hE.1 hI e_x13 (hc := rfl) (hin := in_4) (by decide) (hts _ k_16) d_Fi_dot_45 ?_
  refine lv_iload hx hb d_Fi_dot_48 (lv_at hl 4 rfl) ?_
  obtain ⟨x14, e_x14, hf⟩ := fh_b hf
  refine fh_iald S hE.1 hI 0 rfl e_x14 d_Fi_dot_50 ?_
  refine fh_aload_n S d_Fi_dot_51 rfl (lv_at hl 0 rfl) ?_
  obtain ⟨x15, e_x15, hf⟩ := fh_b hf
  refine fh_geta S hE.1 hI e_x15 (hc := rfl) (hin := in_4) (by decide) (hts _ k_16) d_Fi_dot_52 ?_
  refine lv_iload_n hx hb d_Fi_dot_55 rfl (lv_at hl 3 rfl) ?_
  obtain ⟨x16, e_x16, hf⟩ := fh_b hf
  refine fh_iald S hE.1 hI 0 rfl e_x16 d_Fi_dot_56 ?_
  refine lv_isub hx hb d_Fi_dot_57 ?_
  refine lv_i2l hx hb d_Fi_dot_58 rfl ?_
  refine lv_lmul hx hb d_Fi_dot_59 ?_
  refine lv_ladd hx hb d_Fi_dot_60 ?_
  obtain ⟨x17, e_x17, hf⟩ := fh_b hf
  refine fh_topl e_x17 ?_
  refine lv_ldc2 hx hb hown (hts _ k_9) d_Fi_dot_61 ?_
  refine fh_lrem S d_Fi_dot_64 (by decide) ?_
  obtain rfl := Option.some.inj hf
  exact fh_lret S hr hk hAe hI d_Fi_dot_65
theorem d_Fi_showsCircle_0 : decode c0_Fi_showsCircle 0 = .ok (.aload_n 0, 1) := by decide +kernel
theorem d_Fi_showsCircle_1 : decode c0_Fi_showsCircle 1 = .ok (.iload_n 1, 1) := by decide +kernel
theorem d_Fi_showsCircle_2 : decode c0_Fi_showsCircle 2 = .ok (.iload_n 2, 1) := by decide +kernel
theorem d_Fi_showsCircle_3 : decode c0_Fi_showsCircle 3 = .ok (.invokevirtual 95, 3) := by decide +kernel
theorem d_Fi_showsCircle_6 : decode c0_Fi_showsCircle 6 = .ok (.aload_n 0, 1) := by decide +kernel
theorem d_Fi_showsCircle_7 : decode c0_Fi_showsCircle 7 = .ok (.iload_n 1, 1) := by decide +kernel
theorem d_Fi_showsCircle_8 : decode c0_Fi_showsCircle 8 = .ok (.iload_n 3, 1) := by decide +kernel
theorem d_Fi_showsCircle_9 : decode c0_Fi_showsCircle 9 = .ok (.iload_n 1, 1) := by decide +kernel
theorem d_Fi_showsCircle_10 : decode c0_Fi_showsCircle 10 = .ok (.iload 4, 2) := by decide +kernel
theorem d_Fi_showsCircle_12 : decode c0_Fi_showsCircle 12 = .ok (.invokevirtual 103, 3) := by decide +kernel
theorem d_Fi_showsCircle_15 : decode c0_Fi_showsCircle 15 = .ok (.lmul, 1) := by decide +kernel
theorem d_Fi_showsCircle_16 : decode c0_Fi_showsCircle 16 = .ok (.aload_n 0, 1) := by decide +kernel
theorem d_Fi_showsCircle_17 : decode c0_Fi_showsCircle 17 = .ok (.iload_n 1, 1) := by decide +kernel
theorem d_Fi_showsCircle_18 : decode c0_Fi_showsCircle 18 = .ok (.iload_n 3, 1) := by decide +kernel
theorem d_Fi_showsCircle_19 : decode c0_Fi_showsCircle 19 = .ok (.invokevirtual 95, 3) := by decide +kernel
theorem d_Fi_showsCircle_22 : decode c0_Fi_showsCircle 22 = .ok (.aload_n 0, 1) := by decide +kernel
theorem d_Fi_showsCircle_23 : decode c0_Fi_showsCircle 23 = .ok (.iload_n 1, 1) := by decide +kernel
theorem d_Fi_showsCircle_24 : decode c0_Fi_showsCircle 24 = .ok (.iload_n 2, 1) := by decide +kernel
theorem d_Fi_showsCircle_25 : decode c0_Fi_showsCircle 25 = .ok (.iload_n 1, 1) := by decide +kernel
theorem d_Fi_showsCircle_26 : decode c0_Fi_showsCircle 26 = .ok (.iload 4, 2) := by decide +kernel
theorem d_Fi_showsCircle_28 : decode c0_Fi_showsCircle 28 = .ok (.invokevirtual 103, 3) := by decide +kernel
theorem d_Fi_showsCircle_31 : decode c0_Fi_showsCircle 31 = .ok (.lmul, 1) := by decide +kernel
theorem d_Fi_showsCircle_32 : decode c0_Fi_showsCircle 32 = .ok (.lsub, 1) := by decide +kernel
theorem d_Fi_showsCircle_33 : decode c0_Fi_showsCircle 33 = .ok (.aload_n 0, 1) := by decide +kernel
theorem d_Fi_showsCircle_34 : decode c0_Fi_showsCircle 34 = .ok (.iload_n 1, 1) := by decide +kernel
theorem d_Fi_showsCircle_35 : decode c0_Fi_showsCircle 35 = .ok (.iload 4, 2) := by decide +kernel
theorem d_Fi_showsCircle_37 : decode c0_Fi_showsCircle 37 = .ok (.invokevirtual 95, 3) := by decide +kernel
theorem d_Fi_showsCircle_40 : decode c0_Fi_showsCircle 40 = .ok (.aload_n 0, 1) := by decide +kernel
theorem d_Fi_showsCircle_41 : decode c0_Fi_showsCircle 41 = .ok (.iload_n 1, 1) := by decide +kernel
theorem d_Fi_showsCircle_42 : decode c0_Fi_showsCircle 42 = .ok (.iload_n 2, 1) := by decide +kernel
theorem d_Fi_showsCircle_43 : decode c0_Fi_showsCircle 43 = .ok (.iload_n 1, 1) := by decide +kernel
theorem d_Fi_showsCircle_44 : decode c0_Fi_showsCircle 44 = .ok (.iload_n 3, 1) := by decide +kernel
theorem d_Fi_showsCircle_45 : decode c0_Fi_showsCircle 45 = .ok (.invokevirtual 103, 3) := by decide +kernel
theorem d_Fi_showsCircle_48 : decode c0_Fi_showsCircle 48 = .ok (.lmul, 1) := by decide +kernel
theorem d_Fi_showsCircle_49 : decode c0_Fi_showsCircle 49 = .ok (.ladd, 1) := by decide +kernel
theorem d_Fi_showsCircle_50 : decode c0_Fi_showsCircle 50 = .ok (.lstore 5, 2) := by decide +kernel
theorem d_Fi_showsCircle_52 : decode c0_Fi_showsCircle 52 = .ok (.lload 5, 2) := by decide +kernel
theorem d_Fi_showsCircle_54 : decode c0_Fi_showsCircle 54 = .ok (.ldc2_w 88, 3) := by decide +kernel
theorem d_Fi_showsCircle_57 : decode c0_Fi_showsCircle 57 = .ok (.lrem, 1) := by decide +kernel
theorem d_Fi_showsCircle_58 : decode c0_Fi_showsCircle 58 = .ok (.lconst 0, 1) := by decide +kernel
theorem d_Fi_showsCircle_59 : decode c0_Fi_showsCircle 59 = .ok (.lcmp, 1) := by decide +kernel
theorem d_Fi_showsCircle_60 : decode c0_Fi_showsCircle 60 = .ok (.ifCond .ne 7, 3) := by decide +kernel
theorem d_Fi_showsCircle_63 : decode c0_Fi_showsCircle 63 = .ok (.iconst 1, 1) := by decide +kernel
theorem d_Fi_showsCircle_64 : decode c0_Fi_showsCircle 64 = .ok (.goto 4, 3) := by decide +kernel
theorem d_Fi_showsCircle_67 : decode c0_Fi_showsCircle 67 = .ok (.iconst 0, 1) := by decide +kernel
theorem d_Fi_showsCircle_68 : decode c0_Fi_showsCircle 68 = .ok (.ireturn, 1) := by decide +kernel
def f_Fi_showsCircle (K : Nat → ClassId) (N : Nat) (o : Nat) (a1 : Int32) (a2 : Int32) (a3 : Int32) (a4 : Int32) (h0 : fh_H) : Option (Int32 × fh_H) :=
  (fg_o h0 (some o) 4).bind fun o1 => (f_Fi_length K N o1 a1 a2 h0).bind fun r2 => (fg_o r2.2 (some o) 4).bind fun o3 => (f_Fi_cross K N o3 a1 a3 a1 a4 r2.2).bind fun r4 => (fg_o r4.2 (some o) 4).bind fun o5 => (f_Fi_length K N o5 a1 a3 r4.2).bind fun r6 => (fg_o r6.2 (some o) 4).bind fun o7 => (f_Fi_cross K N o7 a1 a2 a1 a4 r6.2).bind fun r8 => (fg_o r8.2 (some o) 4).bind fun o9 => (f_Fi_length K N o9 a1 a4 r8.2).bind fun r10 => (fg_o r10.2 (some o) 4).bind fun o11 => (f_Fi_cross K N o11 a1 a2 a1 a3 r10.2).bind fun r12 => (some (((r2.1 * r4.1) - (r6.1 * r8.1)) + (r10.1 * r12.1))).bind fun x13 => if (lg_cmp (fr_l x13 1000003) 0) = 0 then (some (1, r12.2)) else (some (0, r12.2))
set_option maxHeartbeats 4000000 in
set_option maxRecDepth 100000 in
theorem c_Fi_showsCircle {l : Launch} {D : va_G} {K : Nat → ClassId} {t : Nat → Nat} {N : Nat} {o : Nat} {a1 : Int32} {a2 : Int32} {a3 : Int32} {a4 : Int32} {h0 : fh_H} {res : Int32 × fh_H} (hf : f_Fi_showsCircle K N o a1 a2 a3 a4 h0 = some res) : fC l D K t y_Fi_showsCircle c0_Fi_showsCircle 7 (some .boolean) rm_Fi_showsCircle [.ref o, .int a1, .int a2, .int a3, .int a4] h0 (some (.int res.1)) res.2 := by
  refine fh_body (by decide) (Nat.le_of_ble_eq_true rfl) ?_
  intro p e s m below meth c A ls S hr hk hnm hE hAe hI hl
  obtain ⟨hx, hb, hml, hown, hts⟩ := id S
  have hl : lv_has ls 7 [(0, va_rf (some o)), (1, .int a1), (2, .int a2), (3, .int a3), (4, .int a4)] := hl
  unfold f_Fi_showsCircle at hf
  refine fh_aload_n S d_Fi_showsCircle_0 rfl (lv_at hl 0 rfl) ?_
  refine lv_iload_n hx hb d_Fi_showsCircle_1 rfl (lv_at hl 1 rfl) ?_
  refine lv_iload_n hx hb d_Fi_showsCircle_2 rfl (lv_at hl 2 rfl) ?_
  obtain ⟨o1, e_o1, hf⟩ := fh_b hf
  obtain ⟨r2, e_r2, hf⟩ := fh_b hf
  refine fh_callV (As := [.int a1, .int a2]) (rest := []) S fT_good hE hI e_o1 rfl (c_Fi_length e_r2) fy_Fi_length fst_Fi_length k_19 ⟨rfl, rfl⟩ ⟨Nat.le_of_ble_eq_true rfl, Nat.le_of_ble_eq_true rfl⟩ ⟨Nat.zero_le _, Nat.zero_le _⟩ rfl hl.1 rfl (Nat.le_of_ble_eq_true rfl) d_Fi_showsCircle_3 (fun H locs hI => ?_)
  refine fh_aload_n S d_Fi_showsCircle_6 rfl (lv_at hl 0 rfl) ?_
  refine lv_iload_n hx hb d_Fi_showsCircle_7 rfl (lv_at hl 1 rfl) ?_
  refine lv_iload_n hx hb d_Fi_showsCircle_8 rfl (lv_at hl 3 rfl) ?_
  refine lv_iload_n hx hb d_Fi_showsCircle_9 rfl (lv_at hl 1 rfl) ?_
  refine lv_iload hx hb d_Fi_showsCircle_10 (lv_at hl 4 rfl) ?_
  obtain ⟨o3, e_o3, hf⟩ := fh_b hf
  obtain ⟨r4, e_r4, hf⟩ := fh_b hf
  refine fh_callV (As := [.int a1, .int a3, .int a1, .int a4]) (rest := [.long r2.1]) S fT_good hE hI e_o3 rfl (c_Fi_cross e_r4) fy_Fi_cross fst_Fi_cross k_21 ⟨rfl, rfl⟩ ⟨Nat.le_of_ble_eq_true rfl, Nat.le_of_ble_eq_true rfl⟩ ⟨Nat.zero_le _, Nat.zero_le _⟩ rfl hl.1 rfl (Nat.le_of_ble_eq_true rfl) d_Fi_showsCircle_12 (fun H locs hI => ?_)
  refine lv_lmul hx hb d_Fi_showsCircle_15 ?_
  refine fh_aload_n S d_Fi_showsCircle_16 rfl (lv_at hl 0 rfl) ?_
  refine lv_iload_n hx hb d_Fi_showsCircle_17 rfl (lv_at hl 1 rfl) ?_
  refine lv_iload_n hx hb d_Fi_showsCircle_18 rfl (lv_at hl 3 rfl) ?_
  obtain ⟨o5, e_o5, hf⟩ := fh_b hf
  obtain ⟨r6, e_r6, hf⟩ := fh_b hf
  refine fh_callV (As := [.int a1, .int a3]) (rest := [.long (r2.1 * r4.1)]) S fT_good hE hI e_o5 rfl (c_Fi_length e_r6) fy_Fi_length fst_Fi_length k_19 ⟨rfl, rfl⟩ ⟨Nat.le_of_ble_eq_true rfl, Nat.le_of_ble_eq_true rfl⟩ ⟨Nat.zero_le _, Nat.zero_le _⟩ rfl hl.1 rfl (Nat.le_of_ble_eq_true rfl) d_Fi_showsCircle_19 (fun H locs hI => ?_)
  refine fh_aload_n S d_Fi_showsCircle_22 rfl (lv_at hl 0 rfl) ?_
  refine lv_iload_n hx hb d_Fi_showsCircle_23 rfl (lv_at hl 1 rfl) ?_
  refine lv_iload_n hx hb d_Fi_showsCircle_24 rfl (lv_at hl 2 rfl) ?_
  refine lv_iload_n hx hb d_Fi_showsCircle_25 rfl (lv_at hl 1 rfl) ?_
  refine lv_iload hx hb d_Fi_showsCircle_26 (lv_at hl 4 rfl) ?_
  obtain ⟨o7, e_o7, hf⟩ := fh_b hf
  obtain ⟨r8, e_r8, hf⟩ := fh_b hf
  refine fh_callV (As := [.int a1, .int a2, .int a1, .int a4]) (rest := [.long r6.1, .long (r2.1 * r4.1)]) S fT_good hE hI e_o7 rfl (c_Fi_cross e_r8) fy_Fi_cross fst_Fi_cross k_21 ⟨rfl, rfl⟩ ⟨Nat.le_of_ble_eq_true rfl, Nat.le_of_ble_eq_true rfl⟩ ⟨Nat.zero_le _, Nat.zero_le _⟩ rfl hl.1 rfl (Nat.le_of_ble_eq_true rfl) d_Fi_showsCircle_28 (fun H locs hI => ?_)
  refine lv_lmul hx hb d_Fi_showsCircle_31 ?_
  refine lv_lsub hx hb d_Fi_showsCircle_32 ?_
  refine fh_aload_n S d_Fi_showsCircle_33 rfl (lv_at hl 0 rfl) ?_
  refine lv_iload_n hx hb d_Fi_showsCircle_34 rfl (lv_at hl 1 rfl) ?_
  refine lv_iload hx hb d_Fi_showsCircle_35 (lv_at hl 4 rfl) ?_
  obtain ⟨o9, e_o9, hf⟩ := fh_b hf
  obtain ⟨r10, e_r10, hf⟩ := fh_b hf
  refine fh_callV (As := [.int a1, .int a4]) (rest := [.long ((r2.1 * r4.1) - (r6.1 * r8.1))]) S fT_good hE hI e_o9 rfl (c_Fi_length e_r10) fy_Fi_length fst_Fi_length k_19 ⟨rfl, rfl⟩ ⟨Nat.le_of_ble_eq_true rfl, Nat.le_of_ble_eq_true rfl⟩ ⟨Nat.zero_le _, Nat.zero_le _⟩ rfl hl.1 rfl (Nat.le_of_ble_eq_true rfl) d_Fi_showsCircle_37 (fun H locs hI => ?_)
  refine fh_aload_n S d_Fi_showsCircle_40 rfl (lv_at hl 0 rfl) ?_
  refine lv_iload_n hx hb d_Fi_showsCircle_41 rfl (lv_at hl 1 rfl) ?_
  refine lv_iload_n hx hb d_Fi_showsCircle_42 rfl (lv_at hl 2 rfl) ?_
  refine lv_iload_n hx hb d_Fi_showsCircle_43 rfl (lv_at hl 1 rfl) ?_
  refine lv_iload_n hx hb d_Fi_showsCircle_44 rfl (lv_at hl 3 rfl) ?_
  obtain ⟨o11, e_o11, hf⟩ := fh_b hf
  obtain ⟨r12, e_r12, hf⟩ := fh_b hf
  refine fh_callV (As := [.int a1, .int a2, .int a1, .int a3]) (rest := [.long r10.1, .long ((r2.1 * r4.1) - (r6.1 * r8.1))]) S fT_good hE hI e_o11 rfl (c_Fi_cross e_r12) fy_Fi_cross fst_Fi_cross k_21 ⟨rfl, rfl⟩ ⟨Nat.le_of_ble_eq_true rfl, Nat.le_of_ble_eq_true rfl⟩ ⟨Nat.zero_le _, Nat.zero_le _⟩ rfl hl.1 rfl (Nat.le_of_ble_eq_true rfl) d_Fi_showsCircle_45 (fun H locs hI => ?_)
  refine lv_lmul hx hb d_Fi_showsCircle_48 ?_
  refine lv_ladd hx hb d_Fi_showsCircle_49 ?_
  obtain ⟨x13, e_x13, hf⟩ := fh_b hf
  refine fh_topl e_x13 ?_
  refine lv_lstore (lv' := [(5, .long x13), (0, va_rf (some o)), (1, .int a1), (2, .int a2), (3, .int a3), (4, .int a4)]) hx hb d_Fi_showsCircle_50 hl (by decide) rfl (fun ls hl => ?_)
  refine lv_lload hx hb d_Fi_showsCircle_52 (lv_at hl 0 rfl) ?_
  refine lv_ldc2 hx hb hown (hts _ k_9) d_Fi_showsCircle_54 ?_
  refine fh_lrem S d_Fi_showsCircle_57 (by decide) ?_
  refine lv_lconst (v := 0) hx hb d_Fi_showsCircle_58 (by decide) ?_
  refine W.lcmp hx hb d_Fi_showsCircle_59 ?_
  refine lv_if_ne (tgt := 67) hx hb d_Fi_showsCircle_60 (by decide) (fun c_60 => ?_) (fun c_60 => ?_)
  · replace hf := fh_f c_60 hf
    refine lv_iconst (v := 0) hx hb d_Fi_showsCircle_67 (by decide) ?_
    obtain rfl := Option.some.inj hf
    exact fh_iret S hr hk (fh_nb (Or.inl rfl)) hAe hI d_Fi_showsCircle_68
  · replace hf := fh_t c_60 hf
    refine lv_iconst (v := 1) hx hb d_Fi_showsCircle_63 (by decide) ?_
    refine lv_goto (tgt := 68) hx hb d_Fi_showsCircle_64 (by decide) ?_
    obtain rfl := Option.some.inj hf
    exact fh_iret S hr hk (fh_nb (Or.inr rfl)) hAe hI d_Fi_showsCircle_68
theorem d_Fi_squaredArea_0 : decode c0_Fi_squaredArea 0 = .ok (.aload_n 0, 1) := by decide +kernel
theorem d_Fi_squaredArea_1 : decode c0_Fi_squaredArea 1 = .ok (.iload_n 1, 1) := by decide +kernel
theorem d_Fi_squaredArea_2 : decode c0_Fi_squaredArea 2 = .ok (.iload_n 2, 1) := by decide +kernel
theorem d_Fi_squaredArea_3 : decode c0_Fi_squaredArea 3 = .ok (.iload_n 1, 1) := by decide +kernel
theorem d_Fi_squaredArea_4 : decode c0_Fi_squaredArea 4 = .ok (.iload_n 3, 1) := by decide +kernel
theorem d_Fi_squaredArea_5 : decode c0_Fi_squaredArea 5 = .ok (.invokevirtual 103, 3) := by decide +kernel
theorem d_Fi_squaredArea_8 : decode c0_Fi_squaredArea 8 = .ok (.lstore 4, 2) := by decide +kernel
theorem d_Fi_squaredArea_10 : decode c0_Fi_squaredArea 10 = .ok (.lload 4, 2) := by decide +kernel
theorem d_Fi_squaredArea_12 : decode c0_Fi_squaredArea 12 = .ok (.lload 4, 2) := by decide +kernel
theorem d_Fi_squaredArea_14 : decode c0_Fi_squaredArea 14 = .ok (.lmul, 1) := by decide +kernel
theorem d_Fi_squaredArea_15 : decode c0_Fi_squaredArea 15 = .ok (.ldc2_w 88, 3) := by decide +kernel
theorem d_Fi_squaredArea_18 : decode c0_Fi_squaredArea 18 = .ok (.lrem, 1) := by decide +kernel
theorem d_Fi_squaredArea_19 : decode c0_Fi_squaredArea 19 = .ok (.lreturn, 1) := by decide +kernel
def f_Fi_squaredArea (K : Nat → ClassId) (N : Nat) (o : Nat) (a1 : Int32) (a2 : Int32) (a3 : Int32) (h0 : fh_H) : Option (Int64 × fh_H) :=
  (fg_o h0 (some o) 4).bind fun o1 => (f_Fi_cross K N o1 a1 a2 a1 a3 h0).bind fun r2 => some (fr_l (r2.1 * r2.1) 1000003, r2.2)
set_option maxHeartbeats 4000000 in
set_option maxRecDepth 100000 in
theorem c_Fi_squaredArea {l : Launch} {D : va_G} {K : Nat → ClassId} {t : Nat → Nat} {N : Nat} {o : Nat} {a1 : Int32} {a2 : Int32} {a3 : Int32} {h0 : fh_H} {res : Int64 × fh_H} (hf : f_Fi_squaredArea K N o a1 a2 a3 h0 = some res) : fC l D K t y_Fi_squaredArea c0_Fi_squaredArea 6 (some .long) rm_Fi_squaredArea [.ref o, .int a1, .int a2, .int a3] h0 (some (.long res.1)) res.2 := by
  refine fh_body (by decide) (Nat.le_of_ble_eq_true rfl) ?_
  intro p e s m below meth c A ls S hr hk hnm hE hAe hI hl
  obtain ⟨hx, hb, hml, hown, hts⟩ := id S
  have hl : lv_has ls 6 [(0, va_rf (some o)), (1, .int a1), (2, .int a2), (3, .int a3)] := hl
  unfold f_Fi_squaredArea at hf
  refine fh_aload_n S d_Fi_squaredArea_0 rfl (lv_at hl 0 rfl) ?_
  refine lv_iload_n hx hb d_Fi_squaredArea_1 rfl (lv_at hl 1 rfl) ?_
  refine lv_iload_n hx hb d_Fi_squaredArea_2 rfl (lv_at hl 2 rfl) ?_
  refine lv_iload_n hx hb d_Fi_squaredArea_3 rfl (lv_at hl 1 rfl) ?_
  refine lv_iload_n hx hb d_Fi_squaredArea_4 rfl (lv_at hl 3 rfl) ?_
  obtain ⟨o1, e_o1, hf⟩ := fh_b hf
  obtain ⟨r2, e_r2, hf⟩ := fh_b hf
  refine fh_callV (As := [.int a1, .int a2, .int a1, .int a3]) (rest := []) S fT_good hE hI e_o1 rfl (c_Fi_cross e_r2) fy_Fi_cross fst_Fi_cross k_21 ⟨rfl, rfl⟩ ⟨Nat.le_of_ble_eq_true rfl, Nat.le_of_ble_eq_true rfl⟩ ⟨Nat.zero_le _, Nat.zero_le _⟩ rfl hl.1 rfl (Nat.le_of_ble_eq_true rfl) d_Fi_squaredArea_5 (fun H locs hI => ?_)
  refine lv_lstore (lv' := [(4, .long r2.1), (0, va_rf (some o)), (1, .int a1), (2, .int a2), (3, .int a3)]) hx hb d_Fi_squaredArea_8 hl (by decide) rfl (fun ls hl => ?_)
  refine lv_lload hx hb d_Fi_squaredArea_10 (lv_at hl 0 rfl) ?_
  refine lv_lload hx hb d_Fi_squaredArea_12 (lv_at hl 0 rfl) ?_
  refine lv_lmul hx hb d_Fi_squaredArea_14 ?_
  refine lv_ldc2 hx hb hown (hts _ k_9) d_Fi_squaredArea_15 ?_
  refine fh_lrem S d_Fi_squaredArea_18 (by decide) ?_
  obtain rfl := Option.some.inj hf
  exact fh_lret S hr hk hAe hI d_Fi_squaredArea_19
theorem d_Fi_shows_0 : decode c0_Fi_shows 0 = .ok (.iload_n 2, 1) := by decide +kernel
theorem d_Fi_shows_1 : decode c0_Fi_shows 1 = .ok (.iconst 0, 1) := by decide +kernel
theorem d_Fi_shows_2 : decode c0_Fi_shows 2 = .ok (.invokestatic 109, 3) := by decide +kernel
theorem d_Fi_shows_5 : decode c0_Fi_shows 5 = .ok (.istore_n 3, 1) := by decide +kernel
theorem d_Fi_shows_6 : decode c0_Fi_shows 6 = .ok (.iload_n 2, 1) := by decide +kernel
theorem d_Fi_shows_7 : decode c0_Fi_shows 7 = .ok (.iconst 1, 1) := by decide +kernel
theorem d_Fi_shows_8 : decode c0_Fi_shows 8 = .ok (.invokestatic 109, 3) := by decide +kernel
theorem d_Fi_shows_11 : decode c0_Fi_shows 11 = .ok (.istore 4, 2) := by decide +kernel
theorem d_Fi_shows_13 : decode c0_Fi_shows 13 = .ok (.iload_n 2, 1) := by decide +kernel
theorem d_Fi_shows_14 : decode c0_Fi_shows 14 = .ok (.iconst 2, 1) := by decide +kernel
theorem d_Fi_shows_15 : decode c0_Fi_shows 15 = .ok (.invokestatic 109, 3) := by decide +kernel
theorem d_Fi_shows_18 : decode c0_Fi_shows 18 = .ok (.istore 5, 2) := by decide +kernel
theorem d_Fi_shows_20 : decode c0_Fi_shows 20 = .ok (.iload_n 2, 1) := by decide +kernel
theorem d_Fi_shows_21 : decode c0_Fi_shows 21 = .ok (.iconst 3, 1) := by decide +kernel
theorem d_Fi_shows_22 : decode c0_Fi_shows 22 = .ok (.invokestatic 109, 3) := by decide +kernel
theorem d_Fi_shows_25 : decode c0_Fi_shows 25 = .ok (.istore 6, 2) := by decide +kernel
theorem d_Fi_shows_27 : decode c0_Fi_shows 27 = .ok (.iload_n 2, 1) := by decide +kernel
theorem d_Fi_shows_28 : decode c0_Fi_shows 28 = .ok (.iconst 4, 1) := by decide +kernel
theorem d_Fi_shows_29 : decode c0_Fi_shows 29 = .ok (.invokestatic 109, 3) := by decide +kernel
theorem d_Fi_shows_32 : decode c0_Fi_shows 32 = .ok (.istore 7, 2) := by decide +kernel
theorem d_Fi_shows_34 : decode c0_Fi_shows 34 = .ok (.iload_n 2, 1) := by decide +kernel
theorem d_Fi_shows_35 : decode c0_Fi_shows 35 = .ok (.iconst 5, 1) := by decide +kernel
theorem d_Fi_shows_36 : decode c0_Fi_shows 36 = .ok (.invokestatic 109, 3) := by decide +kernel
theorem d_Fi_shows_39 : decode c0_Fi_shows 39 = .ok (.istore 8, 2) := by decide +kernel
theorem d_Fi_shows_41 : decode c0_Fi_shows 41 = .ok (.iload_n 1, 1) := by decide +kernel
theorem d_Fi_shows_42 : decode c0_Fi_shows 42 = .ok (.tableswitch 326 0 8 #[50, 88, 109, 131, 153, 178, 190, 256, 285], 50) := by decide +kernel
theorem d_Fi_shows_92 : decode c0_Fi_shows 92 = .ok (.aload_n 0, 1) := by decide +kernel
theorem d_Fi_shows_93 : decode c0_Fi_shows 93 = .ok (.getfield 9, 3) := by decide +kernel
theorem d_Fi_shows_96 : decode c0_Fi_shows 96 = .ok (.iload_n 3, 1) := by decide +kernel
theorem d_Fi_shows_97 : decode c0_Fi_shows 97 = .ok (.iaload, 1) := by decide +kernel
theorem d_Fi_shows_98 : decode c0_Fi_shows 98 = .ok (.aload_n 0, 1) := by decide +kernel
theorem d_Fi_shows_99 : decode c0_Fi_shows 99 = .ok (.getfield 9, 3) := by decide +kernel
theorem d_Fi_shows_102 : decode c0_Fi_shows 102 = .ok (.iload 4, 2) := by decide +kernel
theorem d_Fi_shows_104 : decode c0_Fi_shows 104 = .ok (.iaload, 1) := by decide +kernel
theorem d_Fi_shows_105 : decode c0_Fi_shows 105 = .ok (.if_icmp .ne 23, 3) := by decide +kernel
theorem d_Fi_shows_108 : decode c0_Fi_shows 108 = .ok (.aload_n 0, 1) := by decide +kernel
theorem d_Fi_shows_109 : decode c0_Fi_shows 109 = .ok (.getfield 15, 3) := by decide +kernel
theorem d_Fi_shows_112 : decode c0_Fi_shows 112 = .ok (.iload_n 3, 1) := by decide +kernel
theorem d_Fi_shows_113 : decode c0_Fi_shows 113 = .ok (.iaload, 1) := by decide +kernel
theorem d_Fi_shows_114 : decode c0_Fi_shows 114 = .ok (.aload_n 0, 1) := by decide +kernel
theorem d_Fi_shows_115 : decode c0_Fi_shows 115 = .ok (.getfield 15, 3) := by decide +kernel
theorem d_Fi_shows_118 : decode c0_Fi_shows 118 = .ok (.iload 4, 2) := by decide +kernel
theorem d_Fi_shows_120 : decode c0_Fi_shows 120 = .ok (.iaload, 1) := by decide +kernel
theorem d_Fi_shows_121 : decode c0_Fi_shows 121 = .ok (.if_icmp .ne 7, 3) := by decide +kernel
theorem d_Fi_shows_124 : decode c0_Fi_shows 124 = .ok (.iconst 1, 1) := by decide +kernel
theorem d_Fi_shows_125 : decode c0_Fi_shows 125 = .ok (.goto 4, 3) := by decide +kernel
theorem d_Fi_shows_128 : decode c0_Fi_shows 128 = .ok (.iconst 0, 1) := by decide +kernel
theorem d_Fi_shows_129 : decode c0_Fi_shows 129 = .ok (.ireturn, 1) := by decide +kernel
theorem d_Fi_shows_130 : decode c0_Fi_shows 130 = .ok (.aload_n 0, 1) := by decide +kernel
theorem d_Fi_shows_131 : decode c0_Fi_shows 131 = .ok (.iload_n 3, 1) := by decide +kernel
theorem d_Fi_shows_132 : decode c0_Fi_shows 132 = .ok (.iload 4, 2) := by decide +kernel
theorem d_Fi_shows_134 : decode c0_Fi_shows 134 = .ok (.iload_n 3, 1) := by decide +kernel
theorem d_Fi_shows_135 : decode c0_Fi_shows 135 = .ok (.iload 5, 2) := by decide +kernel
theorem d_Fi_shows_137 : decode c0_Fi_shows 137 = .ok (.invokevirtual 103, 3) := by decide +kernel
theorem d_Fi_shows_140 : decode c0_Fi_shows 140 = .ok (.lconst 0, 1) := by decide +kernel
theorem d_Fi_shows_141 : decode c0_Fi_shows 141 = .ok (.lcmp, 1) := by decide +kernel
theorem d_Fi_shows_142 : decode c0_Fi_shows 142 = .ok (.ifCond .ne 7, 3) := by decide +kernel
theorem d_Fi_shows_145 : decode c0_Fi_shows 145 = .ok (.iconst 1, 1) := by decide +kernel
theorem d_Fi_shows_146 : decode c0_Fi_shows 146 = .ok (.goto 4, 3) := by decide +kernel
theorem d_Fi_shows_149 : decode c0_Fi_shows 149 = .ok (.iconst 0, 1) := by decide +kernel
theorem d_Fi_shows_150 : decode c0_Fi_shows 150 = .ok (.ireturn, 1) := by decide +kernel
theorem d_Fi_shows_151 : decode c0_Fi_shows 151 = .ok (.aload_n 0, 1) := by decide +kernel
theorem d_Fi_shows_152 : decode c0_Fi_shows 152 = .ok (.iload_n 3, 1) := by decide +kernel
theorem d_Fi_shows_153 : decode c0_Fi_shows 153 = .ok (.iload 4, 2) := by decide +kernel
theorem d_Fi_shows_155 : decode c0_Fi_shows 155 = .ok (.iload 5, 2) := by decide +kernel
theorem d_Fi_shows_157 : decode c0_Fi_shows 157 = .ok (.iload 6, 2) := by decide +kernel
theorem d_Fi_shows_159 : decode c0_Fi_shows 159 = .ok (.invokevirtual 103, 3) := by decide +kernel
theorem d_Fi_shows_162 : decode c0_Fi_shows 162 = .ok (.lconst 0, 1) := by decide +kernel
theorem d_Fi_shows_163 : decode c0_Fi_shows 163 = .ok (.lcmp, 1) := by decide +kernel
theorem d_Fi_shows_164 : decode c0_Fi_shows 164 = .ok (.ifCond .ne 7, 3) := by decide +kernel
theorem d_Fi_shows_167 : decode c0_Fi_shows 167 = .ok (.iconst 1, 1) := by decide +kernel
theorem d_Fi_shows_168 : decode c0_Fi_shows 168 = .ok (.goto 4, 3) := by decide +kernel
theorem d_Fi_shows_171 : decode c0_Fi_shows 171 = .ok (.iconst 0, 1) := by decide +kernel
theorem d_Fi_shows_172 : decode c0_Fi_shows 172 = .ok (.ireturn, 1) := by decide +kernel
theorem d_Fi_shows_173 : decode c0_Fi_shows 173 = .ok (.aload_n 0, 1) := by decide +kernel
theorem d_Fi_shows_174 : decode c0_Fi_shows 174 = .ok (.iload_n 3, 1) := by decide +kernel
theorem d_Fi_shows_175 : decode c0_Fi_shows 175 = .ok (.iload 4, 2) := by decide +kernel
theorem d_Fi_shows_177 : decode c0_Fi_shows 177 = .ok (.iload 5, 2) := by decide +kernel
theorem d_Fi_shows_179 : decode c0_Fi_shows 179 = .ok (.iload 6, 2) := by decide +kernel
theorem d_Fi_shows_181 : decode c0_Fi_shows 181 = .ok (.invokevirtual 112, 3) := by decide +kernel
theorem d_Fi_shows_184 : decode c0_Fi_shows 184 = .ok (.lconst 0, 1) := by decide +kernel
theorem d_Fi_shows_185 : decode c0_Fi_shows 185 = .ok (.lcmp, 1) := by decide +kernel
theorem d_Fi_shows_186 : decode c0_Fi_shows 186 = .ok (.ifCond .ne 7, 3) := by decide +kernel
theorem d_Fi_shows_189 : decode c0_Fi_shows 189 = .ok (.iconst 1, 1) := by decide +kernel
theorem d_Fi_shows_190 : decode c0_Fi_shows 190 = .ok (.goto 4, 3) := by decide +kernel
theorem d_Fi_shows_193 : decode c0_Fi_shows 193 = .ok (.iconst 0, 1) := by decide +kernel
theorem d_Fi_shows_194 : decode c0_Fi_shows 194 = .ok (.ireturn, 1) := by decide +kernel
theorem d_Fi_shows_195 : decode c0_Fi_shows 195 = .ok (.aload_n 0, 1) := by decide +kernel
theorem d_Fi_shows_196 : decode c0_Fi_shows 196 = .ok (.iload_n 3, 1) := by decide +kernel
theorem d_Fi_shows_197 : decode c0_Fi_shows 197 = .ok (.iload 4, 2) := by decide +kernel
theorem d_Fi_shows_199 : decode c0_Fi_shows 199 = .ok (.invokevirtual 95, 3) := by decide +kernel
theorem d_Fi_shows_202 : decode c0_Fi_shows 202 = .ok (.aload_n 0, 1) := by decide +kernel
theorem d_Fi_shows_203 : decode c0_Fi_shows 203 = .ok (.iload 5, 2) := by decide +kernel
theorem d_Fi_shows_205 : decode c0_Fi_shows 205 = .ok (.iload 6, 2) := by decide +kernel
theorem d_Fi_shows_207 : decode c0_Fi_shows 207 = .ok (.invokevirtual 95, 3) := by decide +kernel
theorem d_Fi_shows_210 : decode c0_Fi_shows 210 = .ok (.lcmp, 1) := by decide +kernel
theorem d_Fi_shows_211 : decode c0_Fi_shows 211 = .ok (.ifCond .ne 7, 3) := by decide +kernel
theorem d_Fi_shows_214 : decode c0_Fi_shows 214 = .ok (.iconst 1, 1) := by decide +kernel
theorem d_Fi_shows_215 : decode c0_Fi_shows 215 = .ok (.goto 4, 3) := by decide +kernel
theorem d_Fi_shows_218 : decode c0_Fi_shows 218 = .ok (.iconst 0, 1) := by decide +kernel
theorem d_Fi_shows_219 : decode c0_Fi_shows 219 = .ok (.ireturn, 1) := by decide +kernel
theorem d_Fi_shows_220 : decode c0_Fi_shows 220 = .ok (.aload_n 0, 1) := by decide +kernel
theorem d_Fi_shows_221 : decode c0_Fi_shows 221 = .ok (.iload_n 3, 1) := by decide +kernel
theorem d_Fi_shows_222 : decode c0_Fi_shows 222 = .ok (.iload 4, 2) := by decide +kernel
theorem d_Fi_shows_224 : decode c0_Fi_shows 224 = .ok (.iload 5, 2) := by decide +kernel
theorem d_Fi_shows_226 : decode c0_Fi_shows 226 = .ok (.iload 6, 2) := by decide +kernel
theorem d_Fi_shows_228 : decode c0_Fi_shows 228 = .ok (.invokevirtual 115, 3) := by decide +kernel
theorem d_Fi_shows_231 : decode c0_Fi_shows 231 = .ok (.ireturn, 1) := by decide +kernel
theorem d_Fi_shows_232 : decode c0_Fi_shows 232 = .ok (.iconst 2, 1) := by decide +kernel
theorem d_Fi_shows_233 : decode c0_Fi_shows 233 = .ok (.aload_n 0, 1) := by decide +kernel
theorem d_Fi_shows_234 : decode c0_Fi_shows 234 = .ok (.getfield 9, 3) := by decide +kernel
theorem d_Fi_shows_237 : decode c0_Fi_shows 237 = .ok (.iload_n 3, 1) := by decide +kernel
theorem d_Fi_shows_238 : decode c0_Fi_shows 238 = .ok (.iaload, 1) := by decide +kernel
theorem d_Fi_shows_239 : decode c0_Fi_shows 239 = .ok (.imul, 1) := by decide +kernel
theorem d_Fi_shows_240 : decode c0_Fi_shows 240 = .ok (.aload_n 0, 1) := by decide +kernel
theorem d_Fi_shows_241 : decode c0_Fi_shows 241 = .ok (.getfield 9, 3) := by decide +kernel
theorem d_Fi_shows_244 : decode c0_Fi_shows 244 = .ok (.iload 4, 2) := by decide +kernel
theorem d_Fi_shows_246 : decode c0_Fi_shows 246 = .ok (.iaload, 1) := by decide +kernel
theorem d_Fi_shows_247 : decode c0_Fi_shows 247 = .ok (.isub, 1) := by decide +kernel
theorem d_Fi_shows_248 : decode c0_Fi_shows 248 = .ok (.aload_n 0, 1) := by decide +kernel
theorem d_Fi_shows_249 : decode c0_Fi_shows 249 = .ok (.getfield 9, 3) := by decide +kernel
theorem d_Fi_shows_252 : decode c0_Fi_shows 252 = .ok (.iload 5, 2) := by decide +kernel
theorem d_Fi_shows_254 : decode c0_Fi_shows 254 = .ok (.iaload, 1) := by decide +kernel
theorem d_Fi_shows_255 : decode c0_Fi_shows 255 = .ok (.isub, 1) := by decide +kernel
theorem d_Fi_shows_256 : decode c0_Fi_shows 256 = .ok (.ldc 90, 2) := by decide +kernel
theorem d_Fi_shows_258 : decode c0_Fi_shows 258 = .ok (.irem, 1) := by decide +kernel
theorem d_Fi_shows_259 : decode c0_Fi_shows 259 = .ok (.ifCond .ne 37, 3) := by decide +kernel
theorem d_Fi_shows_262 : decode c0_Fi_shows 262 = .ok (.iconst 2, 1) := by decide +kernel
theorem d_Fi_shows_263 : decode c0_Fi_shows 263 = .ok (.aload_n 0, 1) := by decide +kernel
theorem d_Fi_shows_264 : decode c0_Fi_shows 264 = .ok (.getfield 15, 3) := by decide +kernel
theorem d_Fi_shows_267 : decode c0_Fi_shows 267 = .ok (.iload_n 3, 1) := by decide +kernel
theorem d_Fi_shows_268 : decode c0_Fi_shows 268 = .ok (.iaload, 1) := by decide +kernel
theorem d_Fi_shows_269 : decode c0_Fi_shows 269 = .ok (.imul, 1) := by decide +kernel
theorem d_Fi_shows_270 : decode c0_Fi_shows 270 = .ok (.aload_n 0, 1) := by decide +kernel
theorem d_Fi_shows_271 : decode c0_Fi_shows 271 = .ok (.getfield 15, 3) := by decide +kernel
theorem d_Fi_shows_274 : decode c0_Fi_shows 274 = .ok (.iload 4, 2) := by decide +kernel
theorem d_Fi_shows_276 : decode c0_Fi_shows 276 = .ok (.iaload, 1) := by decide +kernel
theorem d_Fi_shows_277 : decode c0_Fi_shows 277 = .ok (.isub, 1) := by decide +kernel
theorem d_Fi_shows_278 : decode c0_Fi_shows 278 = .ok (.aload_n 0, 1) := by decide +kernel
theorem d_Fi_shows_279 : decode c0_Fi_shows 279 = .ok (.getfield 15, 3) := by decide +kernel
theorem d_Fi_shows_282 : decode c0_Fi_shows 282 = .ok (.iload 5, 2) := by decide +kernel
theorem d_Fi_shows_284 : decode c0_Fi_shows 284 = .ok (.iaload, 1) := by decide +kernel
theorem d_Fi_shows_285 : decode c0_Fi_shows 285 = .ok (.isub, 1) := by decide +kernel
theorem d_Fi_shows_286 : decode c0_Fi_shows 286 = .ok (.ldc 90, 2) := by decide +kernel
theorem d_Fi_shows_288 : decode c0_Fi_shows 288 = .ok (.irem, 1) := by decide +kernel
theorem d_Fi_shows_289 : decode c0_Fi_shows 289 = .ok (.ifCond .ne 7, 3) := by decide +kernel
theorem d_Fi_shows_292 : decode c0_Fi_shows 292 = .ok (.iconst 1, 1) := by decide +kernel
theorem d_Fi_shows_293 : decode c0_Fi_shows 293 = .ok (.goto 4, 3) := by decide +kernel
theorem d_Fi_shows_296 : decode c0_Fi_shows 296 = .ok (.iconst 0, 1) := by decide +kernel
theorem d_Fi_shows_297 : decode c0_Fi_shows 297 = .ok (.ireturn, 1) := by decide +kernel
theorem d_Fi_shows_298 : decode c0_Fi_shows 298 = .ok (.aload_n 0, 1) := by decide +kernel
theorem d_Fi_shows_299 : decode c0_Fi_shows 299 = .ok (.iload_n 3, 1) := by decide +kernel
theorem d_Fi_shows_300 : decode c0_Fi_shows 300 = .ok (.iload 4, 2) := by decide +kernel
theorem d_Fi_shows_302 : decode c0_Fi_shows 302 = .ok (.iload 5, 2) := by decide +kernel
theorem d_Fi_shows_304 : decode c0_Fi_shows 304 = .ok (.invokevirtual 118, 3) := by decide +kernel
theorem d_Fi_shows_307 : decode c0_Fi_shows 307 = .ok (.aload_n 0, 1) := by decide +kernel
theorem d_Fi_shows_308 : decode c0_Fi_shows 308 = .ok (.iload 6, 2) := by decide +kernel
theorem d_Fi_shows_310 : decode c0_Fi_shows 310 = .ok (.iload 7, 2) := by decide +kernel
theorem d_Fi_shows_312 : decode c0_Fi_shows 312 = .ok (.iload 8, 2) := by decide +kernel
theorem d_Fi_shows_314 : decode c0_Fi_shows 314 = .ok (.invokevirtual 118, 3) := by decide +kernel
theorem d_Fi_shows_317 : decode c0_Fi_shows 317 = .ok (.lcmp, 1) := by decide +kernel
theorem d_Fi_shows_318 : decode c0_Fi_shows 318 = .ok (.ifCond .ne 7, 3) := by decide +kernel
theorem d_Fi_shows_321 : decode c0_Fi_shows 321 = .ok (.iconst 1, 1) := by decide +kernel
theorem d_Fi_shows_322 : decode c0_Fi_shows 322 = .ok (.goto 4, 3) := by decide +kernel
theorem d_Fi_shows_325 : decode c0_Fi_shows 325 = .ok (.iconst 0, 1) := by decide +kernel
theorem d_Fi_shows_326 : decode c0_Fi_shows 326 = .ok (.ireturn, 1) := by decide +kernel
theorem d_Fi_shows_327 : decode c0_Fi_shows 327 = .ok (.iload 7, 2) := by decide +kernel
theorem d_Fi_shows_329 : decode c0_Fi_shows 329 = .ok (.i2l, 1) := by decide +kernel
theorem d_Fi_shows_330 : decode c0_Fi_shows 330 = .ok (.aload_n 0, 1) := by decide +kernel
theorem d_Fi_shows_331 : decode c0_Fi_shows 331 = .ok (.iload_n 3, 1) := by decide +kernel
theorem d_Fi_shows_332 : decode c0_Fi_shows 332 = .ok (.iload 4, 2) := by decide +kernel
theorem d_Fi_shows_334 : decode c0_Fi_shows 334 = .ok (.invokevirtual 95, 3) := by decide +kernel
theorem d_Fi_shows_337 : decode c0_Fi_shows 337 = .ok (.lmul, 1) := by decide +kernel
theorem d_Fi_shows_338 : decode c0_Fi_shows 338 = .ok (.ldc2_w 88, 3) := by decide +kernel
theorem d_Fi_shows_341 : decode c0_Fi_shows 341 = .ok (.lrem, 1) := by decide +kernel
theorem d_Fi_shows_342 : decode c0_Fi_shows 342 = .ok (.iload 8, 2) := by decide +kernel
theorem d_Fi_shows_344 : decode c0_Fi_shows 344 = .ok (.i2l, 1) := by decide +kernel
theorem d_Fi_shows_345 : decode c0_Fi_shows 345 = .ok (.aload_n 0, 1) := by decide +kernel
theorem d_Fi_shows_346 : decode c0_Fi_shows 346 = .ok (.iload 5, 2) := by decide +kernel
theorem d_Fi_shows_348 : decode c0_Fi_shows 348 = .ok (.iload 6, 2) := by decide +kernel
theorem d_Fi_shows_350 : decode c0_Fi_shows 350 = .ok (.invokevirtual 95, 3) := by decide +kernel
theorem d_Fi_shows_353 : decode c0_Fi_shows 353 = .ok (.lmul, 1) := by decide +kernel
theorem d_Fi_shows_354 : decode c0_Fi_shows 354 = .ok (.ldc2_w 88, 3) := by decide +kernel
theorem d_Fi_shows_357 : decode c0_Fi_shows 357 = .ok (.lrem, 1) := by decide +kernel
theorem d_Fi_shows_358 : decode c0_Fi_shows 358 = .ok (.lcmp, 1) := by decide +kernel
theorem d_Fi_shows_359 : decode c0_Fi_shows 359 = .ok (.ifCond .ne 7, 3) := by decide +kernel
theorem d_Fi_shows_362 : decode c0_Fi_shows 362 = .ok (.iconst 1, 1) := by decide +kernel
theorem d_Fi_shows_363 : decode c0_Fi_shows 363 = .ok (.goto 4, 3) := by decide +kernel
theorem d_Fi_shows_366 : decode c0_Fi_shows 366 = .ok (.iconst 0, 1) := by decide +kernel
theorem d_Fi_shows_367 : decode c0_Fi_shows 367 = .ok (.ireturn, 1) := by decide +kernel
theorem d_Fi_shows_368 : decode c0_Fi_shows 368 = .ok (.iconst 0, 1) := by decide +kernel
theorem d_Fi_shows_369 : decode c0_Fi_shows 369 = .ok (.ireturn, 1) := by decide +kernel
def f_Fi_shows (K : Nat → ClassId) (N : Nat) (o : Nat) (a1 : Int32) (a2 : Int32) (h0 : fh_H) : Option (Int32 × fh_H) :=
  (f_FF_unpack K N a2 0 h0).bind fun r1 => (f_FF_unpack K N a2 1 r1.2).bind fun r2 => (f_FF_unpack K N a2 2 r2.2).bind fun r3 => (f_FF_unpack K N a2 3 r3.2).bind fun r4 => (f_FF_unpack K N a2 4 r4.2).bind fun r5 => (f_FF_unpack K N a2 5 r5.2).bind fun r6 => if a1 = 0 then ((fg_a r6.2 (some o) 4 0).bind fun x7 => (fa_i (K 0) r6.2 x7 r1.1).bind fun x8 => (fg_a r6.2 (some o) 4 0).bind fun x9 => (fa_i (K 0) r6.2 x9 r2.1).bind fun x10 => if x8 = x10 then ((fg_a r6.2 (some o) 4 1).bind fun x11 => (fa_i (K 0) r6.2 x11 r1.1).bind fun x12 => (fg_a r6.2 (some o) 4 1).bind fun x13 => (fa_i (K 0) r6.2 x13 r2.1).bind fun x14 => if x12 = x14 then (some (1, r6.2)) else (some (0, r6.2))) else (some (0, r6.2))) else (if a1 = 1 then ((fg_o r6.2 (some o) 4).bind fun o15 => (f_Fi_cross K N o15 r1.1 r2.1 r1.1 r3.1 r6.2).bind fun r16 => if (lg_cmp r16.1 0) = 0 then (some (1, r16.2)) else (some (0, r16.2))) else (if a1 = 2 then ((fg_o r6.2 (some o) 4).bind fun o17 => (f_Fi_cross K N o17 r1.1 r2.1 r3.1 r4.1 r6.2).bind fun r18 => if (lg_cmp r18.1 0) = 0 then (some (1, r18.2)) else (some (0, r18.2))) else (if a1 = 3 then ((fg_o r6.2 (some o) 4).bind fun o19 => (f_Fi_dot K N o19 r1.1 r2.1 r3.1 r4.1 r6.2).bind fun r20 => if (lg_cmp r20.1 0) = 0 then (some (1, r20.2)) else (some (0, r20.2))) else (if a1 = 4 then ((fg_o r6.2 (some o) 4).bind fun o21 => (f_Fi_length K N o21 r1.1 r2.1 r6.2).bind fun r22 => (fg_o r22.2 (some o) 4).bind fun o23 => (f_Fi_length K N o23 r3.1 r4.1 r22.2).bind fun r24 => if (lg_cmp r22.1 r24.1) = 0 then (some (1, r24.2)) else (some (0, r24.2))) else (if a1 = 5 then ((fg_o r6.2 (some o) 4).bind fun o25 => (f_Fi_showsCircle K N o25 r1.1 r2.1 r3.1 r4.1 r6.2).bind fun r26 => fz r26.1 r26.2) else (if a1 = 6 then ((fg_a r6.2 (some o) 4 0).bind fun x27 => (fa_i (K 0) r6.2 x27 r1.1).bind fun x28 => (fg_a r6.2 (some o) 4 0).bind fun x29 => (fa_i (K 0) r6.2 x29 r2.1).bind fun x30 => (fg_a r6.2 (some o) 4 0).bind fun x31 => (fa_i (K 0) r6.2 x31 r3.1).bind fun x32 => if (fr_i (((2 * x28) - x30) - x32) 1000003) = 0 then ((fg_a r6.2 (some o) 4 1).bind fun x33 => (fa_i (K 0) r6.2 x33 r1.1).bind fun x34 => (fg_a r6.2 (some o) 4 1).bind fun x35 => (fa_i (K 0) r6.2 x35 r2.1).bind fun x36 => (fg_a r6.2 (some o) 4 1).bind fun x37 => (fa_i (K 0) r6.2 x37 r3.1).bind fun x38 => if (fr_i (((2 * x34) - x36) - x38) 1000003) = 0 then (some (1, r6.2)) else (some (0, r6.2))) else (some (0, r6.2))) else (if a1 = 7 then ((fg_o r6.2 (some o) 4).bind fun o39 => (f_Fi_squaredArea K N o39 r1.1 r2.1 r3.1 r6.2).bind fun r40 => (fg_o r40.2 (some o) 4).bind fun o41 => (f_Fi_squaredArea K N o41 r4.1 r5.1 r6.1 r40.2).bind fun r42 => if (lg_cmp r40.1 r42.1) = 0 then (some (1, r42.2)) else (some (0, r42.2))) else (if a1 = 8 then ((fg_o r6.2 (some o) 4).bind fun o43 => (f_Fi_length K N o43 r1.1 r2.1 r6.2).bind fun r44 => (fg_o r44.2 (some o) 4).bind fun o45 => (f_Fi_length K N o45 r3.1 r4.1 r44.2).bind fun r46 => if (lg_cmp (fr_l (r5.1.toInt64 * r44.1) 1000003) (fr_l (r6.1.toInt64 * r46.1) 1000003)) = 0 then (some (1, r46.2)) else (some (0, r46.2))) else (some (0, r6.2))))))))))
set_option maxHeartbeats 4000000 in
set_option maxRecDepth 100000 in
theorem c_Fi_shows {l : Launch} {D : va_G} {K : Nat → ClassId} {t : Nat → Nat} {N : Nat} {o : Nat} {a1 : Int32} {a2 : Int32} {h0 : fh_H} {res : Int32 × fh_H} (hf : f_Fi_shows K N o a1 a2 h0 = some res) : fC l D K t y_Fi_shows c0_Fi_shows 9 (some .boolean) rm_Fi_shows [.ref o, .int a1, .int a2] h0 (some (.int res.1)) res.2 := by
  refine fh_body (by decide) (Nat.le_of_ble_eq_true rfl) ?_
  intro p e s m below meth c A ls S hr hk hnm hE hAe hI hl
  obtain ⟨hx, hb, hml, hown, hts⟩ := id S
  have hl : lv_has ls 9 [(0, va_rf (some o)), (1, .int a1), (2, .int a2)] := hl
  unfold f_Fi_shows at hf
  refine lv_iload_n hx hb d_Fi_shows_0 rfl (lv_at hl 2 rfl) ?_
  refine lv_iconst (v := 0) hx hb d_Fi_shows_1 (by decide) ?_
  obtain ⟨r1, e_r1, hf⟩ := fh_b hf
  refine fh_callSN (As := [.int a2, .int 0]) (rest := []) S fT_good hE hI (c_FF_unpack e_r1) fy_FF_unpack fst_FF_unpack kn_2 ⟨rfl, rfl⟩ ⟨Nat.le_of_ble_eq_true rfl, Nat.le_of_ble_eq_true rfl⟩ ⟨Nat.zero_le _, Nat.zero_le _⟩ rfl hl.1 rfl (Nat.le_of_ble_eq_true rfl) d_Fi_shows_2 (fun H locs hI => ?_)
  refine lv_istore_n (lv' := [(3, .int r1.1), (0, va_rf (some o)), (1, .int a1), (2, .int a2)]) hx hb d_Fi_shows_5 rfl hl (by decide) rfl (fun ls hl => ?_)
  refine lv_iload_n hx hb d_Fi_shows_6 rfl (lv_at hl 3 rfl) ?_
  refine lv_iconst (v := 1) hx hb d_Fi_shows_7 (by decide) ?_
  obtain ⟨r2, e_r2, hf⟩ := fh_b hf
  refine fh_callSN (As := [.int a2, .int 1]) (rest := []) S fT_good hE hI (c_FF_unpack e_r2) fy_FF_unpack fst_FF_unpack kn_2 ⟨rfl, rfl⟩ ⟨Nat.le_of_ble_eq_true rfl, Nat.le_of_ble_eq_true rfl⟩ ⟨Nat.zero_le _, Nat.zero_le _⟩ rfl hl.1 rfl (Nat.le_of_ble_eq_true rfl) d_Fi_shows_8 (fun H locs hI => ?_)
  refine lv_istore (lv' := [(4, .int r2.1), (3, .int r1.1), (0, va_rf (some o)), (1, .int a1), (2, .int a2)]) hx hb d_Fi_shows_11 hl (by decide) rfl (fun ls hl => ?_)
  refine lv_iload_n hx hb d_Fi_shows_13 rfl (lv_at hl 4 rfl) ?_
  refine lv_iconst (v := 2) hx hb d_Fi_shows_14 (by decide) ?_
  obtain ⟨r3, e_r3, hf⟩ := fh_b hf
  refine fh_callSN (As := [.int a2, .int 2]) (rest := []) S fT_good hE hI (c_FF_unpack e_r3) fy_FF_unpack fst_FF_unpack kn_2 ⟨rfl, rfl⟩ ⟨Nat.le_of_ble_eq_true rfl, Nat.le_of_ble_eq_true rfl⟩ ⟨Nat.zero_le _, Nat.zero_le _⟩ rfl hl.1 rfl (Nat.le_of_ble_eq_true rfl) d_Fi_shows_15 (fun H locs hI => ?_)
  refine lv_istore (lv' := [(5, .int r3.1), (4, .int r2.1), (3, .int r1.1), (0, va_rf (some o)), (1, .int a1), (2, .int a2)]) hx hb d_Fi_shows_18 hl (by decide) rfl (fun ls hl => ?_)
  refine lv_iload_n hx hb d_Fi_shows_20 rfl (lv_at hl 5 rfl) ?_
  refine lv_iconst (v := 3) hx hb d_Fi_shows_21 (by decide) ?_
  obtain ⟨r4, e_r4, hf⟩ := fh_b hf
  refine fh_callSN (As := [.int a2, .int 3]) (rest := []) S fT_good hE hI (c_FF_unpack e_r4) fy_FF_unpack fst_FF_unpack kn_2 ⟨rfl, rfl⟩ ⟨Nat.le_of_ble_eq_true rfl, Nat.le_of_ble_eq_true rfl⟩ ⟨Nat.zero_le _, Nat.zero_le _⟩ rfl hl.1 rfl (Nat.le_of_ble_eq_true rfl) d_Fi_shows_22 (fun H locs hI => ?_)
  refine lv_istore (lv' := [(6, .int r4.1), (5, .int r3.1), (4, .int r2.1), (3, .int r1.1), (0, va_rf (some o)), (1, .int a1), (2, .int a2)]) hx hb d_Fi_shows_25 hl (by decide) rfl (fun ls hl => ?_)
  refine lv_iload_n hx hb d_Fi_shows_27 rfl (lv_at hl 6 rfl) ?_
  refine lv_iconst (v := 4) hx hb d_Fi_shows_28 (by decide) ?_
  obtain ⟨r5, e_r5, hf⟩ := fh_b hf
  refine fh_callSN (As := [.int a2, .int 4]) (rest := []) S fT_good hE hI (c_FF_unpack e_r5) fy_FF_unpack fst_FF_unpack kn_2 ⟨rfl, rfl⟩ ⟨Nat.le_of_ble_eq_true rfl, Nat.le_of_ble_eq_true rfl⟩ ⟨Nat.zero_le _, Nat.zero_le _⟩ rfl hl.1 rfl (Nat.le_of_ble_eq_true rfl) d_Fi_shows_29 (fun H locs hI => ?_)
  refine lv_istore (lv' := [(7, .int r5.1), (6, .int r4.1), (5, .int r3.1), (4, .int r2.1), (3, .int r1.1), (0, va_rf (some o)), (1, .int a1), (2, .int a2)]) hx hb d_Fi_shows_32 hl (by decide) rfl (fun ls hl => ?_)
  refine lv_iload_n hx hb d_Fi_shows_34 rfl (lv_at hl 7 rfl) ?_
  refine lv_iconst (v := 5) hx hb d_Fi_shows_35 (by decide) ?_
  obtain ⟨r6, e_r6, hf⟩ := fh_b hf
  refine fh_callSN (As := [.int a2, .int 5]) (rest := []) S fT_good hE hI (c_FF_unpack e_r6) fy_FF_unpack fst_FF_unpack kn_2 ⟨rfl, rfl⟩ ⟨Nat.le_of_ble_eq_true rfl, Nat.le_of_ble_eq_true rfl⟩ ⟨Nat.zero_le _, Nat.zero_le _⟩ rfl hl.1 rfl (Nat.le_of_ble_eq_true rfl) d_Fi_shows_36 (fun H locs hI => ?_)
  refine lv_istore (lv' := [(8, .int r6.1), (7, .int r5.1), (6, .int r4.1), (5, .int r3.1), (4, .int r2.1), (3, .int r1.1), (0, va_rf (some o)), (1, .int a1), (2, .int a2)]) hx hb d_Fi_shows_39 hl (by decide) rfl (fun ls hl => ?_)
  refine lv_iload_n hx hb d_Fi_shows_41 rfl (lv_at hl 7 rfl) ?_
  by_cases c_42_0 : a1 = 0
  · replace hf := fh_t c_42_0 hf
    refine lv_tableIn (tgt := 92) hx hb d_Fi_shows_42 (by rw [c_42_0]; decide) (by rw [c_42_0]; decide) (off := 50) (by rw [c_42_0]; decide) (by decide) ?_
    refine fh_aload_n S d_Fi_shows_92 rfl (lv_at hl 6 rfl) ?_
    obtain ⟨x7, e_x7, hf⟩ := fh_b hf
    refine fh_geta S hE.1 hI e_x7 (hc := rfl) (hin := in_4) (by decide) (hts _ k_15) d_Fi_shows_93 ?_
    refine lv_iload_n hx hb d_Fi_shows_96 rfl (lv_at hl 5 rfl) ?_
    obtain ⟨x8, e_x8, hf⟩ := fh_b hf
    refine fh_iald S hE.1 hI 0 rfl e_x8 d_Fi_shows_97 ?_
    refine fh_aload_n S d_Fi_shows_98 rfl (lv_at hl 6 rfl) ?_
    obtain ⟨x9, e_x9, hf⟩ := fh_b hf
    refine fh_geta S hE.1 hI e_x9 (hc := rfl) (hin := in_4) (by decide) (hts _ k_15) d_Fi_shows_99 ?_
    refine lv_iload hx hb d_Fi_shows_102 (lv_at hl 4 rfl) ?_
    obtain ⟨x10, e_x10, hf⟩ := fh_b hf
    refine fh_iald S hE.1 hI 0 rfl e_x10 d_Fi_shows_104 ?_
    refine lv_icmp_ne (tgt := 128) hx hb d_Fi_shows_105 (by decide) (fun c_105 => ?_) (fun c_105 => ?_)
    · replace hf := fh_f c_105 hf
      refine lv_iconst (v := 0) hx hb d_Fi_shows_128 (by decide) ?_
      obtain rfl := Option.some.inj hf
      exact fh_iret S hr hk (fh_nb (Or.inl rfl)) hAe hI d_Fi_shows_129
    · replace hf := fh_t c_105 hf
      refine fh_aload_n S d_Fi_shows_108 rfl (lv_at hl 6 rfl) ?_
      obtain ⟨x11, e_x11, hf⟩ := fh_b hf
      refine fh_geta S hE.1 hI e_x11 (hc := rfl) (hin := in_4) (by decide) (hts _ k_16) d_Fi_shows_109 ?_
      refine lv_iload_n hx hb d_Fi_shows_112 rfl (lv_at hl 5 rfl) ?_
      obtain ⟨x12, e_x12, hf⟩ := fh_b hf
      refine fh_iald S hE.1 hI 0 rfl e_x12 d_Fi_shows_113 ?_
      refine fh_aload_n S d_Fi_shows_114 rfl (lv_at hl 6 rfl) ?_
      obtain ⟨x13, e_x13, hf⟩ := fh_b hf
      refine fh_geta S hE.1 hI e_x13 (hc := rfl) (hin := in_4) (by decide) (hts _ k_16) d_Fi_shows_115 ?_
      refine lv_iload hx hb d_Fi_shows_118 (lv_at hl 4 rfl) ?_
      obtain ⟨x14, e_x14, hf⟩ := fh_b hf
      refine fh_iald S hE.1 hI 0 rfl e_x14 d_Fi_shows_120 ?_
      refine lv_icmp_ne (tgt := 128) hx hb d_Fi_shows_121 (by decide) (fun c_121 => ?_) (fun c_121 => ?_)
      · replace hf := fh_f c_121 hf
        refine lv_iconst (v := 0) hx hb d_Fi_shows_128 (by decide) ?_
        obtain rfl := Option.some.inj hf
        exact fh_iret S hr hk (fh_nb (Or.inl rfl)) hAe hI d_Fi_shows_129
      · replace hf := fh_t c_121 hf
        refine lv_iconst (v := 1) hx hb d_Fi_shows_124 (by decide) ?_
        refine lv_goto (tgt := 129) hx hb d_Fi_shows_125 (by decide) ?_
        obtain rfl := Option.some.inj hf
        exact fh_iret S hr hk (fh_nb (Or.inr rfl)) hAe hI d_Fi_shows_129
  replace hf := fh_f c_42_0 hf
  by_cases c_42_1 : a1 = 1
  · replace hf := fh_t c_42_1 hf
    refine lv_tableIn (tgt := 130) hx hb d_Fi_shows_42 (by rw [c_42_1]; decide) (by rw [c_42_1]; decide) (off := 88) (by rw [c_42_1]; decide) (by decide) ?_
    refine fh_aload_n S d_Fi_shows_130 rfl (lv_at hl 6 rfl) ?_
    refine lv_iload_n hx hb d_Fi_shows_131 rfl (lv_at hl 5 rfl) ?_
    refine lv_iload hx hb d_Fi_shows_132 (lv_at hl 4 rfl) ?_
    refine lv_iload_n hx hb d_Fi_shows_134 rfl (lv_at hl 5 rfl) ?_
    refine lv_iload hx hb d_Fi_shows_135 (lv_at hl 3 rfl) ?_
    obtain ⟨o15, e_o15, hf⟩ := fh_b hf
    obtain ⟨r16, e_r16, hf⟩ := fh_b hf
    refine fh_callV (As := [.int r1.1, .int r2.1, .int r1.1, .int r3.1]) (rest := []) S fT_good hE hI e_o15 rfl (c_Fi_cross e_r16) fy_Fi_cross fst_Fi_cross k_21 ⟨rfl, rfl⟩ ⟨Nat.le_of_ble_eq_true rfl, Nat.le_of_ble_eq_true rfl⟩ ⟨Nat.zero_le _, Nat.zero_le _⟩ rfl hl.1 rfl (Nat.le_of_ble_eq_true rfl) d_Fi_shows_137 (fun H locs hI => ?_)
    refine lv_lconst (v := 0) hx hb d_Fi_shows_140 (by decide) ?_
    refine W.lcmp hx hb d_Fi_shows_141 ?_
    refine lv_if_ne (tgt := 149) hx hb d_Fi_shows_142 (by decide) (fun c_142 => ?_) (fun c_142 => ?_)
    · replace hf := fh_f c_142 hf
      refine lv_iconst (v := 0) hx hb d_Fi_shows_149 (by decide) ?_
      obtain rfl := Option.some.inj hf
      exact fh_iret S hr hk (fh_nb (Or.inl rfl)) hAe hI d_Fi_shows_150
    · replace hf := fh_t c_142 hf
      refine lv_iconst (v := 1) hx hb d_Fi_shows_145 (by decide) ?_
      refine lv_goto (tgt := 150) hx hb d_Fi_shows_146 (by decide) ?_
      obtain rfl := Option.some.inj hf
      exact fh_iret S hr hk (fh_nb (Or.inr rfl)) hAe hI d_Fi_shows_150
  replace hf := fh_f c_42_1 hf
  by_cases c_42_2 : a1 = 2
  · replace hf := fh_t c_42_2 hf
    refine lv_tableIn (tgt := 151) hx hb d_Fi_shows_42 (by rw [c_42_2]; decide) (by rw [c_42_2]; decide) (off := 109) (by rw [c_42_2]; decide) (by decide) ?_
    refine fh_aload_n S d_Fi_shows_151 rfl (lv_at hl 6 rfl) ?_
    refine lv_iload_n hx hb d_Fi_shows_152 rfl (lv_at hl 5 rfl) ?_
    refine lv_iload hx hb d_Fi_shows_153 (lv_at hl 4 rfl) ?_
    refine lv_iload hx hb d_Fi_shows_155 (lv_at hl 3 rfl) ?_
    refine lv_iload hx hb d_Fi_shows_157 (lv_at hl 2 rfl) ?_
    obtain ⟨o17, e_o17, hf⟩ := fh_b hf
    obtain ⟨r18, e_r18, hf⟩ := fh_b hf
    refine fh_callV (As := [.int r1.1, .int r2.1, .int r3.1, .int r4.1]) (rest := []) S fT_good hE hI e_o17 rfl (c_Fi_cross e_r18) fy_Fi_cross fst_Fi_cross k_21 ⟨rfl, rfl⟩ ⟨Nat.le_of_ble_eq_true rfl, Nat.le_of_ble_eq_true rfl⟩ ⟨Nat.zero_le _, Nat.zero_le _⟩ rfl hl.1 rfl (Nat.le_of_ble_eq_true rfl) d_Fi_shows_159 (fun H locs hI => ?_)
    refine lv_lconst (v := 0) hx hb d_Fi_shows_162 (by decide) ?_
    refine W.lcmp hx hb d_Fi_shows_163 ?_
    refine lv_if_ne (tgt := 171) hx hb d_Fi_shows_164 (by decide) (fun c_164 => ?_) (fun c_164 => ?_)
    · replace hf := fh_f c_164 hf
      refine lv_iconst (v := 0) hx hb d_Fi_shows_171 (by decide) ?_
      obtain rfl := Option.some.inj hf
      exact fh_iret S hr hk (fh_nb (Or.inl rfl)) hAe hI d_Fi_shows_172
    · replace hf := fh_t c_164 hf
      refine lv_iconst (v := 1) hx hb d_Fi_shows_167 (by decide) ?_
      refine lv_goto (tgt := 172) hx hb d_Fi_shows_168 (by decide) ?_
      obtain rfl := Option.some.inj hf
      exact fh_iret S hr hk (fh_nb (Or.inr rfl)) hAe hI d_Fi_shows_172
  replace hf := fh_f c_42_2 hf
  by_cases c_42_3 : a1 = 3
  · replace hf := fh_t c_42_3 hf
    refine lv_tableIn (tgt := 173) hx hb d_Fi_shows_42 (by rw [c_42_3]; decide) (by rw [c_42_3]; decide) (off := 131) (by rw [c_42_3]; decide) (by decide) ?_
    refine fh_aload_n S d_Fi_shows_173 rfl (lv_at hl 6 rfl) ?_
    refine lv_iload_n hx hb d_Fi_shows_174 rfl (lv_at hl 5 rfl) ?_
    refine lv_iload hx hb d_Fi_shows_175 (lv_at hl 4 rfl) ?_
    refine lv_iload hx hb d_Fi_shows_177 (lv_at hl 3 rfl) ?_
    refine lv_iload hx hb d_Fi_shows_179 (lv_at hl 2 rfl) ?_
    obtain ⟨o19, e_o19, hf⟩ := fh_b hf
    obtain ⟨r20, e_r20, hf⟩ := fh_b hf
    refine fh_callV (As := [.int r1.1, .int r2.1, .int r3.1, .int r4.1]) (rest := []) S fT_good hE hI e_o19 rfl (c_Fi_dot e_r20) fy_Fi_dot fst_Fi_dot k_60 ⟨rfl, rfl⟩ ⟨Nat.le_of_ble_eq_true rfl, Nat.le_of_ble_eq_true rfl⟩ ⟨Nat.zero_le _, Nat.zero_le _⟩ rfl hl.1 rfl (Nat.le_of_ble_eq_true rfl) d_Fi_shows_181 (fun H locs hI => ?_)
    refine lv_lconst (v := 0) hx hb d_Fi_shows_184 (by decide) ?_
    refine W.lcmp hx hb d_Fi_shows_185 ?_
    refine lv_if_ne (tgt := 193) hx hb d_Fi_shows_186 (by decide) (fun c_186 => ?_) (fun c_186 => ?_)
    · replace hf := fh_f c_186 hf
      refine lv_iconst (v := 0) hx hb d_Fi_shows_193 (by decide) ?_
      obtain rfl := Option.some.inj hf
      exact fh_iret S hr hk (fh_nb (Or.inl rfl)) hAe hI d_Fi_shows_194
    · replace hf := fh_t c_186 hf
      refine lv_iconst (v := 1) hx hb d_Fi_shows_189 (by decide) ?_
      refine lv_goto (tgt := 194) hx hb d_Fi_shows_190 (by decide) ?_
      obtain rfl := Option.some.inj hf
      exact fh_iret S hr hk (fh_nb (Or.inr rfl)) hAe hI d_Fi_shows_194
  replace hf := fh_f c_42_3 hf
  by_cases c_42_4 : a1 = 4
  · replace hf := fh_t c_42_4 hf
    refine lv_tableIn (tgt := 195) hx hb d_Fi_shows_42 (by rw [c_42_4]; decide) (by rw [c_42_4]; decide) (off := 153) (by rw [c_42_4]; decide) (by decide) ?_
    refine fh_aload_n S d_Fi_shows_195 rfl (lv_at hl 6 rfl) ?_
    refine lv_iload_n hx hb d_Fi_shows_196 rfl (lv_at hl 5 rfl) ?_
    refine lv_iload hx hb d_Fi_shows_197 (lv_at hl 4 rfl) ?_
    obtain ⟨o21, e_o21, hf⟩ := fh_b hf
    obtain ⟨r22, e_r22, hf⟩ := fh_b hf
    refine fh_callV (As := [.int r1.1, .int r2.1]) (rest := []) S fT_good hE hI e_o21 rfl (c_Fi_length e_r22) fy_Fi_length fst_Fi_length k_19 ⟨rfl, rfl⟩ ⟨Nat.le_of_ble_eq_true rfl, Nat.le_of_ble_eq_true rfl⟩ ⟨Nat.zero_le _, Nat.zero_le _⟩ rfl hl.1 rfl (Nat.le_of_ble_eq_true rfl) d_Fi_shows_199 (fun H locs hI => ?_)
    refine fh_aload_n S d_Fi_shows_202 rfl (lv_at hl 6 rfl) ?_
    refine lv_iload hx hb d_Fi_shows_203 (lv_at hl 3 rfl) ?_
    refine lv_iload hx hb d_Fi_shows_205 (lv_at hl 2 rfl) ?_
    obtain ⟨o23, e_o23, hf⟩ := fh_b hf
    obtain ⟨r24, e_r24, hf⟩ := fh_b hf
    refine fh_callV (As := [.int r3.1, .int r4.1]) (rest := [.long r22.1]) S fT_good hE hI e_o23 rfl (c_Fi_length e_r24) fy_Fi_length fst_Fi_length k_19 ⟨rfl, rfl⟩ ⟨Nat.le_of_ble_eq_true rfl, Nat.le_of_ble_eq_true rfl⟩ ⟨Nat.zero_le _, Nat.zero_le _⟩ rfl hl.1 rfl (Nat.le_of_ble_eq_true rfl) d_Fi_shows_207 (fun H locs hI => ?_)
    refine W.lcmp hx hb d_Fi_shows_210 ?_
    refine lv_if_ne (tgt := 218) hx hb d_Fi_shows_211 (by decide) (fun c_211 => ?_) (fun c_211 => ?_)
    · replace hf := fh_f c_211 hf
      refine lv_iconst (v := 0) hx hb d_Fi_shows_218 (by decide) ?_
      obtain rfl := Option.some.inj hf
      exact fh_iret S hr hk (fh_nb (Or.inl rfl)) hAe hI d_Fi_shows_219
    · replace hf := fh_t c_211 hf
      refine lv_iconst (v := 1) hx hb d_Fi_shows_214 (by decide) ?_
      refine lv_goto (tgt := 219) hx hb d_Fi_shows_215 (by decide) ?_
      obtain rfl := Option.some.inj hf
      exact fh_iret S hr hk (fh_nb (Or.inr rfl)) hAe hI d_Fi_shows_219
  replace hf := fh_f c_42_4 hf
  by_cases c_42_5 : a1 = 5
  · replace hf := fh_t c_42_5 hf
    refine lv_tableIn (tgt := 220) hx hb d_Fi_shows_42 (by rw [c_42_5]; decide) (by rw [c_42_5]; decide) (off := 178) (by rw [c_42_5]; decide) (by decide) ?_
    refine fh_aload_n S d_Fi_shows_220 rfl (lv_at hl 6 rfl) ?_
    refine lv_iload_n hx hb d_Fi_shows_221 rfl (lv_at hl 5 rfl) ?_
    refine lv_iload hx hb d_Fi_shows_222 (lv_at hl 4 rfl) ?_
    refine lv_iload hx hb d_Fi_shows_224 (lv_at hl 3 rfl) ?_
    refine lv_iload hx hb d_Fi_shows_226 (lv_at hl 2 rfl) ?_
    obtain ⟨o25, e_o25, hf⟩ := fh_b hf
    obtain ⟨r26, e_r26, hf⟩ := fh_b hf
    refine fh_callV (As := [.int r1.1, .int r2.1, .int r3.1, .int r4.1]) (rest := []) S fT_good hE hI e_o25 rfl (c_Fi_showsCircle e_r26) fy_Fi_showsCircle fst_Fi_showsCircle k_59 ⟨rfl, rfl⟩ ⟨Nat.le_of_ble_eq_true rfl, Nat.le_of_ble_eq_true rfl⟩ ⟨Nat.zero_le _, Nat.zero_le _⟩ rfl hl.1 rfl (Nat.le_of_ble_eq_true rfl) d_Fi_shows_228 (fun H locs hI => ?_)
    obtain ⟨hz, rfl⟩ := fz_s hf
    exact fh_iret S hr hk (fh_nb hz) hAe hI d_Fi_shows_231
  replace hf := fh_f c_42_5 hf
  by_cases c_42_6 : a1 = 6
  · replace hf := fh_t c_42_6 hf
    refine lv_tableIn (tgt := 232) hx hb d_Fi_shows_42 (by rw [c_42_6]; decide) (by rw [c_42_6]; decide) (off := 190) (by rw [c_42_6]; decide) (by decide) ?_
    refine lv_iconst (v := 2) hx hb d_Fi_shows_232 (by decide) ?_
    refine fh_aload_n S d_Fi_shows_233 rfl (lv_at hl 6 rfl) ?_
    obtain ⟨x27, e_x27, hf⟩ := fh_b hf
    refine fh_geta S hE.1 hI e_x27 (hc := rfl) (hin := in_4) (by decide) (hts _ k_15) d_Fi_shows_234 ?_
    refine lv_iload_n hx hb d_Fi_shows_237 rfl (lv_at hl 5 rfl) ?_
    obtain ⟨x28, e_x28, hf⟩ := fh_b hf
    refine fh_iald S hE.1 hI 0 rfl e_x28 d_Fi_shows_238 ?_
    refine lv_imul hx hb d_Fi_shows_239 ?_
    refine fh_aload_n S d_Fi_shows_240 rfl (lv_at hl 6 rfl) ?_
    obtain ⟨x29, e_x29, hf⟩ := fh_b hf
    refine fh_geta S hE.1 hI e_x29 (hc := rfl) (hin := in_4) (by decide) (hts _ k_15) d_Fi_shows_241 ?_
    refine lv_iload hx hb d_Fi_shows_244 (lv_at hl 4 rfl) ?_
    obtain ⟨x30, e_x30, hf⟩ := fh_b hf
    refine fh_iald S hE.1 hI 0 rfl e_x30 d_Fi_shows_246 ?_
    refine lv_isub hx hb d_Fi_shows_247 ?_
    refine fh_aload_n S d_Fi_shows_248 rfl (lv_at hl 6 rfl) ?_
    obtain ⟨x31, e_x31, hf⟩ := fh_b hf
    refine fh_geta S hE.1 hI e_x31 (hc := rfl) (hin := in_4) (by decide) (hts _ k_15) d_Fi_shows_249 ?_
    refine lv_iload hx hb d_Fi_shows_252 (lv_at hl 3 rfl) ?_
    obtain ⟨x32, e_x32, hf⟩ := fh_b hf
    refine fh_iald S hE.1 hI 0 rfl e_x32 d_Fi_shows_254 ?_
    refine lv_isub hx hb d_Fi_shows_255 ?_
    refine lv_ldc hx hb hown (hts _ k_12) d_Fi_shows_256 ?_
    refine fh_irem S d_Fi_shows_258 (by decide) ?_
    refine lv_if_ne (tgt := 296) hx hb d_Fi_shows_259 (by decide) (fun c_259 => ?_) (fun c_259 => ?_)
    · replace hf := fh_f c_259 hf
      refine lv_iconst (v := 0) hx hb d_Fi_shows_296 (by decide) ?_
      obtain rfl := Option.some.inj hf
      exact fh_iret S hr hk (fh_nb (Or.inl rfl)) hAe hI d_Fi_shows_297
    · replace hf := fh_t c_259 hf
      refine lv_iconst (v := 2) hx hb d_Fi_shows_262 (by decide) ?_
      refine fh_aload_n S d_Fi_shows_263 rfl (lv_at hl 6 rfl) ?_
      obtain ⟨x33, e_x33, hf⟩ := fh_b hf
      refine fh_geta S hE.1 hI e_x33 (hc := rfl) (hin := in_4) (by decide) (hts _ k_16) d_Fi_shows_264 ?_
      refine lv_iload_n hx hb d_Fi_shows_267 rfl (lv_at hl 5 rfl) ?_
      obtain ⟨x34, e_x34, hf⟩ := fh_b hf
      refine fh_iald S hE.1 hI 0 rfl e_x34 d_Fi_shows_268 ?_
      refine lv_imul hx hb d_Fi_shows_269 ?_
      refine fh_aload_n S d_Fi_shows_270 rfl (lv_at hl 6 rfl) ?_
      obtain ⟨x35, e_x35, hf⟩ := fh_b hf
      refine fh_geta S hE.1 hI e_x35 (hc := rfl) (hin := in_4) (by decide) (hts _ k_16) d_Fi_shows_271 ?_
      refine lv_iload hx hb d_Fi_shows_274 (lv_at hl 4 rfl) ?_
      obtain ⟨x36, e_x36, hf⟩ := fh_b hf
      refine fh_iald S hE.1 hI 0 rfl e_x36 d_Fi_shows_276 ?_
      refine lv_isub hx hb d_Fi_shows_277 ?_
      refine fh_aload_n S d_Fi_shows_278 rfl (lv_at hl 6 rfl) ?_
      obtain ⟨x37, e_x37, hf⟩ := fh_b hf
      refine fh_geta S hE.1 hI e_x37 (hc := rfl) (hin := in_4) (by decide) (hts _ k_16) d_Fi_shows_279 ?_
      refine lv_iload hx hb d_Fi_shows_282 (lv_at hl 3 rfl) ?_
      obtain ⟨x38, e_x38, hf⟩ := fh_b hf
      refine fh_iald S hE.1 hI 0 rfl e_x38 d_Fi_shows_284 ?_
      refine lv_isub hx hb d_Fi_shows_285 ?_
      refine lv_ldc hx hb hown (hts _ k_12) d_Fi_shows_286 ?_
      refine fh_irem S d_Fi_shows_288 (by decide) ?_
      refine lv_if_ne (tgt := 296) hx hb d_Fi_shows_289 (by decide) (fun c_289 => ?_) (fun c_289 => ?_)
      · replace hf := fh_f c_289 hf
        refine lv_iconst (v := 0) hx hb d_Fi_shows_296 (by decide) ?_
        obtain rfl := Option.some.inj hf
        exact fh_iret S hr hk (fh_nb (Or.inl rfl)) hAe hI d_Fi_shows_297
      · replace hf := fh_t c_289 hf
        refine lv_iconst (v := 1) hx hb d_Fi_shows_292 (by decide) ?_
        refine lv_goto (tgt := 297) hx hb d_Fi_shows_293 (by decide) ?_
        obtain rfl := Option.some.inj hf
        exact fh_iret S hr hk (fh_nb (Or.inr rfl)) hAe hI d_Fi_shows_297
  replace hf := fh_f c_42_6 hf
  by_cases c_42_7 : a1 = 7
  · replace hf := fh_t c_42_7 hf
    refine lv_tableIn (tgt := 298) hx hb d_Fi_shows_42 (by rw [c_42_7]; decide) (by rw [c_42_7]; decide) (off := 256) (by rw [c_42_7]; decide) (by decide) ?_
    refine fh_aload_n S d_Fi_shows_298 rfl (lv_at hl 6 rfl) ?_
    refine lv_iload_n hx hb d_Fi_shows_299 rfl (lv_at hl 5 rfl) ?_
    refine lv_iload hx hb d_Fi_shows_300 (lv_at hl 4 rfl) ?_
    refine lv_iload hx hb d_Fi_shows_302 (lv_at hl 3 rfl) ?_
    obtain ⟨o39, e_o39, hf⟩ := fh_b hf
    obtain ⟨r40, e_r40, hf⟩ := fh_b hf
    refine fh_callV (As := [.int r1.1, .int r2.1, .int r3.1]) (rest := []) S fT_good hE hI e_o39 rfl (c_Fi_squaredArea e_r40) fy_Fi_squaredArea fst_Fi_squaredArea k_58 ⟨rfl, rfl⟩ ⟨Nat.le_of_ble_eq_true rfl, Nat.le_of_ble_eq_true rfl⟩ ⟨Nat.zero_le _, Nat.zero_le _⟩ rfl hl.1 rfl (Nat.le_of_ble_eq_true rfl) d_Fi_shows_304 (fun H locs hI => ?_)
    refine fh_aload_n S d_Fi_shows_307 rfl (lv_at hl 6 rfl) ?_
    refine lv_iload hx hb d_Fi_shows_308 (lv_at hl 2 rfl) ?_
    refine lv_iload hx hb d_Fi_shows_310 (lv_at hl 1 rfl) ?_
    refine lv_iload hx hb d_Fi_shows_312 (lv_at hl 0 rfl) ?_
    obtain ⟨o41, e_o41, hf⟩ := fh_b hf
    obtain ⟨r42, e_r42, hf⟩ := fh_b hf
    refine fh_callV (As := [.int r4.1, .int r5.1, .int r6.1]) (rest := [.long r40.1]) S fT_good hE hI e_o41 rfl (c_Fi_squaredArea e_r42) fy_Fi_squaredArea fst_Fi_squaredArea k_58 ⟨rfl, rfl⟩ ⟨Nat.le_of_ble_eq_true rfl, Nat.le_of_ble_eq_true rfl⟩ ⟨Nat.zero_le _, Nat.zero_le _⟩ rfl hl.1 rfl (Nat.le_of_ble_eq_true rfl) d_Fi_shows_314 (fun H locs hI => ?_)
    refine W.lcmp hx hb d_Fi_shows_317 ?_
    refine lv_if_ne (tgt := 325) hx hb d_Fi_shows_318 (by decide) (fun c_318 => ?_) (fun c_318 => ?_)
    · replace hf := fh_f c_318 hf
      refine lv_iconst (v := 0) hx hb d_Fi_shows_325 (by decide) ?_
      obtain rfl := Option.some.inj hf
      exact fh_iret S hr hk (fh_nb (Or.inl rfl)) hAe hI d_Fi_shows_326
    · replace hf := fh_t c_318 hf
      refine lv_iconst (v := 1) hx hb d_Fi_shows_321 (by decide) ?_
      refine lv_goto (tgt := 326) hx hb d_Fi_shows_322 (by decide) ?_
      obtain rfl := Option.some.inj hf
      exact fh_iret S hr hk (fh_nb (Or.inr rfl)) hAe hI d_Fi_shows_326
  replace hf := fh_f c_42_7 hf
  by_cases c_42_8 : a1 = 8
  · replace hf := fh_t c_42_8 hf
    refine lv_tableIn (tgt := 327) hx hb d_Fi_shows_42 (by rw [c_42_8]; decide) (by rw [c_42_8]; decide) (off := 285) (by rw [c_42_8]; decide) (by decide) ?_
    refine lv_iload hx hb d_Fi_shows_327 (lv_at hl 1 rfl) ?_
    refine lv_i2l hx hb d_Fi_shows_329 rfl ?_
    refine fh_aload_n S d_Fi_shows_330 rfl (lv_at hl 6 rfl) ?_
    refine lv_iload_n hx hb d_Fi_shows_331 rfl (lv_at hl 5 rfl) ?_
    refine lv_iload hx hb d_Fi_shows_332 (lv_at hl 4 rfl) ?_
    obtain ⟨o43, e_o43, hf⟩ := fh_b hf
    obtain ⟨r44, e_r44, hf⟩ := fh_b hf
    refine fh_callV (As := [.int r1.1, .int r2.1]) (rest := [.long r5.1.toInt64]) S fT_good hE hI e_o43 rfl (c_Fi_length e_r44) fy_Fi_length fst_Fi_length k_19 ⟨rfl, rfl⟩ ⟨Nat.le_of_ble_eq_true rfl, Nat.le_of_ble_eq_true rfl⟩ ⟨Nat.zero_le _, Nat.zero_le _⟩ rfl hl.1 rfl (Nat.le_of_ble_eq_true rfl) d_Fi_shows_334 (fun H locs hI => ?_)
    refine lv_lmul hx hb d_Fi_shows_337 ?_
    refine lv_ldc2 hx hb hown (hts _ k_9) d_Fi_shows_338 ?_
    refine fh_lrem S d_Fi_shows_341 (by decide) ?_
    refine lv_iload hx hb d_Fi_shows_342 (lv_at hl 0 rfl) ?_
    refine lv_i2l hx hb d_Fi_shows_344 rfl ?_
    refine fh_aload_n S d_Fi_shows_345 rfl (lv_at hl 6 rfl) ?_
    refine lv_iload hx hb d_Fi_shows_346 (lv_at hl 3 rfl) ?_
    refine lv_iload hx hb d_Fi_shows_348 (lv_at hl 2 rfl) ?_
    obtain ⟨o45, e_o45, hf⟩ := fh_b hf
    obtain ⟨r46, e_r46, hf⟩ := fh_b hf
    refine fh_callV (As := [.int r3.1, .int r4.1]) (rest := [.long r6.1.toInt64, .long (fr_l (r5.1.toInt64 * r44.1) 1000003)]) S fT_good hE hI e_o45 rfl (c_Fi_length e_r46) fy_Fi_length fst_Fi_length k_19 ⟨rfl, rfl⟩ ⟨Nat.le_of_ble_eq_true rfl, Nat.le_of_ble_eq_true rfl⟩ ⟨Nat.zero_le _, Nat.zero_le _⟩ rfl hl.1 rfl (Nat.le_of_ble_eq_true rfl) d_Fi_shows_350 (fun H locs hI => ?_)
    refine lv_lmul hx hb d_Fi_shows_353 ?_
    refine lv_ldc2 hx hb hown (hts _ k_9) d_Fi_shows_354 ?_
    refine fh_lrem S d_Fi_shows_357 (by decide) ?_
    refine W.lcmp hx hb d_Fi_shows_358 ?_
    refine lv_if_ne (tgt := 366) hx hb d_Fi_shows_359 (by decide) (fun c_359 => ?_) (fun c_359 => ?_)
    · replace hf := fh_f c_359 hf
      refine lv_iconst (v := 0) hx hb d_Fi_shows_366 (by decide) ?_
      obtain rfl := Option.some.inj hf
      exact fh_iret S hr hk (fh_nb (Or.inl rfl)) hAe hI d_Fi_shows_367
    · replace hf := fh_t c_359 hf
      refine lv_iconst (v := 1) hx hb d_Fi_shows_362 (by decide) ?_
      refine lv_goto (tgt := 367) hx hb d_Fi_shows_363 (by decide) ?_
      obtain rfl := Option.some.inj hf
      exact fh_iret S hr hk (fh_nb (Or.inr rfl)) hAe hI d_Fi_shows_367
  replace hf := fh_f c_42_8 hf
  have c_42 : a1.toInt < 0 ∨ 8 < a1.toInt := by
    have q0 : a1.toInt ≠ 0 := fun q => c_42_0 (Int32.toInt_inj.mp (q.trans (by decide)))
    have q1 : a1.toInt ≠ 1 := fun q => c_42_1 (Int32.toInt_inj.mp (q.trans (by decide)))
    have q2 : a1.toInt ≠ 2 := fun q => c_42_2 (Int32.toInt_inj.mp (q.trans (by decide)))
    have q3 : a1.toInt ≠ 3 := fun q => c_42_3 (Int32.toInt_inj.mp (q.trans (by decide)))
    have q4 : a1.toInt ≠ 4 := fun q => c_42_4 (Int32.toInt_inj.mp (q.trans (by decide)))
    have q5 : a1.toInt ≠ 5 := fun q => c_42_5 (Int32.toInt_inj.mp (q.trans (by decide)))
    have q6 : a1.toInt ≠ 6 := fun q => c_42_6 (Int32.toInt_inj.mp (q.trans (by decide)))
    have q7 : a1.toInt ≠ 7 := fun q => c_42_7 (Int32.toInt_inj.mp (q.trans (by decide)))
    have q8 : a1.toInt ≠ 8 := fun q => c_42_8 (Int32.toInt_inj.mp (q.trans (by decide)))
    omega
  refine lv_tableOut (tgt := 368) hx hb d_Fi_shows_42 c_42 (by decide) ?_
  refine lv_iconst (v := 0) hx hb d_Fi_shows_368 (by decide) ?_
  obtain rfl := Option.some.inj hf
  exact fh_iret S hr hk (fh_nb (Or.inl rfl)) hAe hI d_Fi_shows_369
theorem d_Dr_isShown_0 : decode c0_Dr_isShown 0 = .ok (.iconst 0, 1) := by decide +kernel
theorem d_Dr_isShown_1 : decode c0_Dr_isShown 1 = .ok (.istore_n 3, 1) := by decide +kernel
theorem d_Dr_isShown_2 : decode c0_Dr_isShown 2 = .ok (.iload_n 3, 1) := by decide +kernel
theorem d_Dr_isShown_3 : decode c0_Dr_isShown 3 = .ok (.aload_n 0, 1) := by decide +kernel
theorem d_Dr_isShown_4 : decode c0_Dr_isShown 4 = .ok (.getfield 25, 3) := by decide +kernel
theorem d_Dr_isShown_7 : decode c0_Dr_isShown 7 = .ok (.if_icmp .ge 38, 3) := by decide +kernel
theorem d_Dr_isShown_10 : decode c0_Dr_isShown 10 = .ok (.aload_n 0, 1) := by decide +kernel
theorem d_Dr_isShown_11 : decode c0_Dr_isShown 11 = .ok (.getfield 11, 3) := by decide +kernel
theorem d_Dr_isShown_14 : decode c0_Dr_isShown 14 = .ok (.iload_n 3, 1) := by decide +kernel
theorem d_Dr_isShown_15 : decode c0_Dr_isShown 15 = .ok (.aaload, 1) := by decide +kernel
theorem d_Dr_isShown_16 : decode c0_Dr_isShown 16 = .ok (.getfield 40, 3) := by decide +kernel
theorem d_Dr_isShown_19 : decode c0_Dr_isShown 19 = .ok (.iconst (-1), 1) := by decide +kernel
theorem d_Dr_isShown_20 : decode c0_Dr_isShown 20 = .ok (.if_icmp .ne 19, 3) := by decide +kernel
theorem d_Dr_isShown_23 : decode c0_Dr_isShown 23 = .ok (.aload_n 0, 1) := by decide +kernel
theorem d_Dr_isShown_24 : decode c0_Dr_isShown 24 = .ok (.getfield 11, 3) := by decide +kernel
theorem d_Dr_isShown_27 : decode c0_Dr_isShown 27 = .ok (.iload_n 3, 1) := by decide +kernel
theorem d_Dr_isShown_28 : decode c0_Dr_isShown 28 = .ok (.aaload, 1) := by decide +kernel
theorem d_Dr_isShown_29 : decode c0_Dr_isShown 29 = .ok (.iload_n 1, 1) := by decide +kernel
theorem d_Dr_isShown_30 : decode c0_Dr_isShown 30 = .ok (.iload_n 2, 1) := by decide +kernel
theorem d_Dr_isShown_31 : decode c0_Dr_isShown 31 = .ok (.invokevirtual 51, 3) := by decide +kernel
theorem d_Dr_isShown_34 : decode c0_Dr_isShown 34 = .ok (.ifCond .ne 5, 3) := by decide +kernel
theorem d_Dr_isShown_37 : decode c0_Dr_isShown 37 = .ok (.iconst 0, 1) := by decide +kernel
theorem d_Dr_isShown_38 : decode c0_Dr_isShown 38 = .ok (.ireturn, 1) := by decide +kernel
theorem d_Dr_isShown_39 : decode c0_Dr_isShown 39 = .ok (.iinc 3 1, 3) := by decide +kernel
theorem d_Dr_isShown_42 : decode c0_Dr_isShown 42 = .ok (.goto (-40), 3) := by decide +kernel
theorem d_Dr_isShown_45 : decode c0_Dr_isShown 45 = .ok (.aload_n 0, 1) := by decide +kernel
theorem d_Dr_isShown_46 : decode c0_Dr_isShown 46 = .ok (.getfield 33, 3) := by decide +kernel
theorem d_Dr_isShown_49 : decode c0_Dr_isShown 49 = .ok (.ifCond .le 7, 3) := by decide +kernel
theorem d_Dr_isShown_52 : decode c0_Dr_isShown 52 = .ok (.iconst 1, 1) := by decide +kernel
theorem d_Dr_isShown_53 : decode c0_Dr_isShown 53 = .ok (.goto 4, 3) := by decide +kernel
theorem d_Dr_isShown_56 : decode c0_Dr_isShown 56 = .ok (.iconst 0, 1) := by decide +kernel
theorem d_Dr_isShown_57 : decode c0_Dr_isShown 57 = .ok (.ireturn, 1) := by decide +kernel
def b_Dr_isShown_39 (K : Nat → ClassId) (N : Nat) (k2 : Int32 → Int32 → Int32 → fh_H → Option (Int32 × fh_H)) (o : Nat) (v1 : Int32) (v2 : Int32) (v3 : Int32) (h : fh_H) : Option (Int32 × fh_H) :=
  (some (v3 + 1)).bind fun x1 => k2 v1 v2 x1 h
def b_Dr_isShown_2 (K : Nat → ClassId) (N : Nat) (k2 : Int32 → Int32 → Int32 → fh_H → Option (Int32 × fh_H)) (o : Nat) (v1 : Int32) (v2 : Int32) (v3 : Int32) (h : fh_H) : Option (Int32 × fh_H) :=
  (fg_i h (some o) 3 2).bind fun x1 => if x1 ≤ v3 then ((fg_i h (some o) 3 1).bind fun x2 => if x2 ≤ 0 then (some (0, h)) else (some (1, h))) else ((fg_a h (some o) 3 0).bind fun x3 => (fa_a (K 3) h x3 v3).bind fun x4 => (fg_i h x4 4 3).bind fun x5 => if x5 = (-1) then ((fg_a h (some o) 3 0).bind fun x6 => (fa_a (K 3) h x6 v3).bind fun x7 => (fg_o h x7 4).bind fun o8 => (f_Fi_shows K N o8 v1 v2 h).bind fun r9 => if r9.1 = 0 then (some (0, r9.2)) else (b_Dr_isShown_39 K N k2 o v1 v2 v3 r9.2)) else (b_Dr_isShown_39 K N k2 o v1 v2 v3 h))
def l_Dr_isShown_2 (K : Nat → ClassId) (N : Nat) (o : Nat) : Nat → Int32 → Int32 → Int32 → fh_H → Option (Int32 × fh_H)
  | 0, _, _, _, _ => none
  | n + 1, v1, v2, v3, h => b_Dr_isShown_2 K N (l_Dr_isShown_2 K N o n) o v1 v2 v3 h
def f_Dr_isShown (K : Nat → ClassId) (N : Nat) (o : Nat) (a1 : Int32) (a2 : Int32) (h0 : fh_H) : Option (Int32 × fh_H) :=
  l_Dr_isShown_2 K N o N a1 a2 0 h0
set_option maxHeartbeats 4000000 in
set_option maxRecDepth 100000 in
theorem c_Dr_isShown {l : Launch} {D : va_G} {K : Nat → ClassId} {t : Nat → Nat} {N : Nat} {o : Nat} {a1 : Int32} {a2 : Int32} {h0 : fh_H} {res : Int32 × fh_H} (hf : f_Dr_isShown K N o a1 a2 h0 = some res) : fC l D K t y_Dr_isShown c0_Dr_isShown 4 (some .boolean) rm_Dr_isShown [.ref o, .int a1, .int a2] h0 (some (.int res.1)) res.2 := by
  refine fh_body (by decide) (Nat.le_of_ble_eq_true rfl) ?_
  intro p e s m below meth c A ls S hr hk hnm hE hAe hI hl
  obtain ⟨hx, hb, hml, hown, hts⟩ := id S
  have hl : lv_has ls 4 [(0, va_rf (some o)), (1, .int a1), (2, .int a2)] := hl
  have L2 : ∀ (n2 : Nat) (v1 : Int32) (v2 : Int32) (v3 : Int32) (h : fh_H) (H : Heap) (locs : List Loc) (ls : Array Slot), lv_has ls 4 [(0, va_rf (some o)), (1, .int v1), (2, .int v2), (3, .int v3)] → fh_I D classes A s.heap h H locs → l_Dr_isShown_2 K N o n2 v1 v2 v3 h = some res → W p l e rm_Dr_isShown s m [.ref o, .int a1, .int a2].toArray below meth c H locs 0 0 (MQ below (fh_Q D classes h0 s.heap.size (some (.int res.1)) res.2) [.ref o, .int a1, .int a2].toArray s 0 0 A) (F0 m 2 ls []) := by
    intro n2
    induction n2 with
    | zero =>
      intro v1 v2 v3 h H locs ls hl hI hf
      exact fh_no hf
    | succ n2 ih2 =>
      have B39 : ∀ (v1 : Int32) (v2 : Int32) (v3 : Int32) (h : fh_H) (H : Heap) (locs : List Loc) (ls : Array Slot), lv_has ls 4 [(0, va_rf (some o)), (1, .int v1), (2, .int v2), (3, .int v3)] → fh_I D classes A s.heap h H locs → b_Dr_isShown_39 K N (l_Dr_isShown_2 K N o n2) o v1 v2 v3 h = some res → W p l e rm_Dr_isShown s m [.ref o, .int a1, .int a2].toArray below meth c H locs 0 0 (MQ below (fh_Q D classes h0 s.heap.size (some (.int res.1)) res.2) [.ref o, .int a1, .int a2].toArray s 0 0 A) (F0 m 39 ls []) := by
        intro v1 v2 v3 h H locs ls hl hI hf
        unfold b_Dr_isShown_39 at hf
        obtain ⟨x1, e_x1, hf⟩ := fh_b hf
        refine lv_iinc (v := x1) (lv' := [(3, .int x1), (0, va_rf (some o)), (1, .int v1), (2, .int v2)]) hx hb d_Dr_isShown_39 hl (k := 3) rfl (by rw [fh_qe e_x1]; rfl) (by decide) rfl (fun ls hl => ?_)
        refine lv_goto (tgt := 2) hx hb d_Dr_isShown_42 (by decide) ?_
        exact ih2 v1 v2 x1 h _ _ _ (lv_sub hl [1, 2, 3, 0] rfl) hI hf
      intro v1 v2 v3 h H locs ls hl hI hf
      have hf : b_Dr_isShown_2 K N (l_Dr_isShown_2 K N o n2) o v1 v2 v3 h = some res := hf
      unfold b_Dr_isShown_2 at hf
      refine lv_iload_n hx hb d_Dr_isShown_2 rfl (lv_at hl 3 rfl) ?_
      refine fh_aload_n S d_Dr_isShown_3 rfl (lv_at hl 0 rfl) ?_
      obtain ⟨x1, e_x1, hf⟩ := fh_b hf
      refine fh_geti S hE.1 hI e_x1 (hc := rfl) (hin := in_3) (by decide) (hts _ k_3) d_Dr_isShown_4 ?_
      refine lv_icmp_ge (tgt := 45) hx hb d_Dr_isShown_7 (by decide) (fun c_7 => ?_) (fun c_7 => ?_)
      · replace hf := fh_t c_7 hf
        refine fh_aload_n S d_Dr_isShown_45 rfl (lv_at hl 0 rfl) ?_
        obtain ⟨x2, e_x2, hf⟩ := fh_b hf
        refine fh_geti S hE.1 hI e_x2 (hc := rfl) (hin := in_3) (by decide) (hts _ k_37) d_Dr_isShown_46 ?_
        refine lv_if_le (tgt := 56) hx hb d_Dr_isShown_49 (by decide) (fun c_49 => ?_) (fun c_49 => ?_)
        · replace hf := fh_t c_49 hf
          refine lv_iconst (v := 0) hx hb d_Dr_isShown_56 (by decide) ?_
          obtain rfl := Option.some.inj hf
          exact fh_iret S hr hk (fh_nb (Or.inl rfl)) hAe hI d_Dr_isShown_57
        · replace hf := fh_f c_49 hf
          refine lv_iconst (v := 1) hx hb d_Dr_isShown_52 (by decide) ?_
          refine lv_goto (tgt := 57) hx hb d_Dr_isShown_53 (by decide) ?_
          obtain rfl := Option.some.inj hf
          exact fh_iret S hr hk (fh_nb (Or.inr rfl)) hAe hI d_Dr_isShown_57
      · replace hf := fh_f c_7 hf
        refine fh_aload_n S d_Dr_isShown_10 rfl (lv_at hl 0 rfl) ?_
        obtain ⟨x3, e_x3, hf⟩ := fh_b hf
        refine fh_geta S hE.1 hI e_x3 (hc := rfl) (hin := in_3) (by decide) (hts _ k_4) d_Dr_isShown_11 ?_
        refine lv_iload_n hx hb d_Dr_isShown_14 rfl (lv_at hl 3 rfl) ?_
        obtain ⟨x4, e_x4, hf⟩ := fh_b hf
        refine fh_aald S hE.1 hI 3 rfl e_x4 d_Dr_isShown_15 ?_
        obtain ⟨x5, e_x5, hf⟩ := fh_b hf
        refine fh_geti S hE.1 hI e_x5 (hc := rfl) (hin := in_4) (by decide) (hts _ k_36) d_Dr_isShown_16 ?_
        refine lv_iconst (v := (-1)) hx hb d_Dr_isShown_19 (by decide) ?_
        refine lv_icmp_ne (tgt := 39) hx hb d_Dr_isShown_20 (by decide) (fun c_20 => ?_) (fun c_20 => ?_)
        · replace hf := fh_f c_20 hf
          exact B39 v1 v2 v3 h _ _ _ (lv_sub hl [0, 1, 2, 3] rfl) hI hf
        · replace hf := fh_t c_20 hf
          refine fh_aload_n S d_Dr_isShown_23 rfl (lv_at hl 0 rfl) ?_
          obtain ⟨x6, e_x6, hf⟩ := fh_b hf
          refine fh_geta S hE.1 hI e_x6 (hc := rfl) (hin := in_3) (by decide) (hts _ k_4) d_Dr_isShown_24 ?_
          refine lv_iload_n hx hb d_Dr_isShown_27 rfl (lv_at hl 3 rfl) ?_
          obtain ⟨x7, e_x7, hf⟩ := fh_b hf
          refine fh_aald S hE.1 hI 3 rfl e_x7 d_Dr_isShown_28 ?_
          refine lv_iload_n hx hb d_Dr_isShown_29 rfl (lv_at hl 1 rfl) ?_
          refine lv_iload_n hx hb d_Dr_isShown_30 rfl (lv_at hl 2 rfl) ?_
          obtain ⟨o8, e_o8, hf⟩ := fh_b hf
          obtain ⟨r9, e_r9, hf⟩ := fh_b hf
          refine fh_callV (As := [.int v1, .int v2]) (rest := []) S fT_good hE hI e_o8 rfl (c_Fi_shows e_r9) fy_Fi_shows fst_Fi_shows k_61 ⟨rfl, rfl⟩ ⟨Nat.le_of_ble_eq_true rfl, Nat.le_of_ble_eq_true rfl⟩ ⟨Nat.zero_le _, Nat.zero_le _⟩ rfl hl.1 rfl (Nat.le_of_ble_eq_true rfl) d_Dr_isShown_31 (fun H locs hI => ?_)
          refine lv_if_ne (tgt := 39) hx hb d_Dr_isShown_34 (by decide) (fun c_34 => ?_) (fun c_34 => ?_)
          · replace hf := fh_f c_34 hf
            exact B39 v1 v2 v3 r9.2 _ _ _ (lv_sub hl [0, 1, 2, 3] rfl) hI hf
          · replace hf := fh_t c_34 hf
            refine lv_iconst (v := 0) hx hb d_Dr_isShown_37 (by decide) ?_
            obtain rfl := Option.some.inj hf
            exact fh_iret S hr hk (fh_nb (Or.inl rfl)) hAe hI d_Dr_isShown_38
  unfold f_Dr_isShown at hf
  refine lv_iconst (v := 0) hx hb d_Dr_isShown_0 (by decide) ?_
  refine lv_istore_n (lv' := [(3, .int 0), (0, va_rf (some o)), (1, .int a1), (2, .int a2)]) hx hb d_Dr_isShown_1 rfl hl (by decide) rfl (fun ls hl => ?_)
  exact L2 N a1 a2 0 h0 _ _ _ (lv_sub hl [1, 2, 3, 0] rfl) hI hf
theorem d_Fs_findLeads_0 : decode c0_Fs_findLeads 0 = .ok (.aload_n 0, 1) := by decide +kernel
theorem d_Fs_findLeads_1 : decode c0_Fs_findLeads 1 = .ok (.bipush 9, 2) := by decide +kernel
theorem d_Fs_findLeads_3 : decode c0_Fs_findLeads 3 = .ok (.invokevirtual 62, 3) := by decide +kernel
theorem d_Fs_findLeads_6 : decode c0_Fs_findLeads 6 = .ok (.ifCond .ne 4, 3) := by decide +kernel
theorem d_Fs_findLeads_9 : decode c0_Fs_findLeads 9 = .ok (.return_, 1) := by decide +kernel
theorem d_Fs_findLeads_10 : decode c0_Fs_findLeads 10 = .ok (.iconst 0, 1) := by decide +kernel
theorem d_Fs_findLeads_11 : decode c0_Fs_findLeads 11 = .ok (.istore_n 1, 1) := by decide +kernel
theorem d_Fs_findLeads_12 : decode c0_Fs_findLeads 12 = .ok (.iload_n 1, 1) := by decide +kernel
theorem d_Fs_findLeads_13 : decode c0_Fs_findLeads 13 = .ok (.aload_n 0, 1) := by decide +kernel
theorem d_Fs_findLeads_14 : decode c0_Fs_findLeads 14 = .ok (.getfield 48, 3) := by decide +kernel
theorem d_Fs_findLeads_17 : decode c0_Fs_findLeads 17 = .ok (.if_icmp .ge 63, 3) := by decide +kernel
theorem d_Fs_findLeads_20 : decode c0_Fs_findLeads 20 = .ok (.aload_n 0, 1) := by decide +kernel
theorem d_Fs_findLeads_21 : decode c0_Fs_findLeads 21 = .ok (.getfield 34, 3) := by decide +kernel
theorem d_Fs_findLeads_24 : decode c0_Fs_findLeads 24 = .ok (.iload_n 1, 1) := by decide +kernel
theorem d_Fs_findLeads_25 : decode c0_Fs_findLeads 25 = .ok (.iload_n 1, 1) := by decide +kernel
theorem d_Fs_findLeads_26 : decode c0_Fs_findLeads 26 = .ok (.iastore, 1) := by decide +kernel
theorem d_Fs_findLeads_27 : decode c0_Fs_findLeads 27 = .ok (.iconst 0, 1) := by decide +kernel
theorem d_Fs_findLeads_28 : decode c0_Fs_findLeads 28 = .ok (.istore_n 2, 1) := by decide +kernel
theorem d_Fs_findLeads_29 : decode c0_Fs_findLeads 29 = .ok (.iload_n 2, 1) := by decide +kernel
theorem d_Fs_findLeads_30 : decode c0_Fs_findLeads 30 = .ok (.iload_n 1, 1) := by decide +kernel
theorem d_Fs_findLeads_31 : decode c0_Fs_findLeads 31 = .ok (.if_icmp .ge 43, 3) := by decide +kernel
theorem d_Fs_findLeads_34 : decode c0_Fs_findLeads 34 = .ok (.aload_n 0, 1) := by decide +kernel
theorem d_Fs_findLeads_35 : decode c0_Fs_findLeads 35 = .ok (.getfield 34, 3) := by decide +kernel
theorem d_Fs_findLeads_38 : decode c0_Fs_findLeads 38 = .ok (.iload_n 1, 1) := by decide +kernel
theorem d_Fs_findLeads_39 : decode c0_Fs_findLeads 39 = .ok (.iaload, 1) := by decide +kernel
theorem d_Fs_findLeads_40 : decode c0_Fs_findLeads 40 = .ok (.iload_n 1, 1) := by decide +kernel
theorem d_Fs_findLeads_41 : decode c0_Fs_findLeads 41 = .ok (.if_icmp .ne 33, 3) := by decide +kernel
theorem d_Fs_findLeads_44 : decode c0_Fs_findLeads 44 = .ok (.aload_n 0, 1) := by decide +kernel
theorem d_Fs_findLeads_45 : decode c0_Fs_findLeads 45 = .ok (.getfield 12, 3) := by decide +kernel
theorem d_Fs_findLeads_48 : decode c0_Fs_findLeads 48 = .ok (.iconst 0, 1) := by decide +kernel
theorem d_Fs_findLeads_49 : decode c0_Fs_findLeads 49 = .ok (.iload_n 2, 1) := by decide +kernel
theorem d_Fs_findLeads_50 : decode c0_Fs_findLeads 50 = .ok (.iload_n 1, 1) := by decide +kernel
theorem d_Fs_findLeads_51 : decode c0_Fs_findLeads 51 = .ok (.iconst 0, 1) := by decide +kernel
theorem d_Fs_findLeads_52 : decode c0_Fs_findLeads 52 = .ok (.invokestatic 98, 3) := by decide +kernel
theorem d_Fs_findLeads_55 : decode c0_Fs_findLeads 55 = .ok (.invokevirtual 102, 3) := by decide +kernel
theorem d_Fs_findLeads_58 : decode c0_Fs_findLeads 58 = .ok (.ifCond .eq 10, 3) := by decide +kernel
theorem d_Fs_findLeads_61 : decode c0_Fs_findLeads 61 = .ok (.aload_n 0, 1) := by decide +kernel
theorem d_Fs_findLeads_62 : decode c0_Fs_findLeads 62 = .ok (.getfield 34, 3) := by decide +kernel
theorem d_Fs_findLeads_65 : decode c0_Fs_findLeads 65 = .ok (.iload_n 1, 1) := by decide +kernel
theorem d_Fs_findLeads_66 : decode c0_Fs_findLeads 66 = .ok (.iload_n 2, 1) := by decide +kernel
theorem d_Fs_findLeads_67 : decode c0_Fs_findLeads 67 = .ok (.iastore, 1) := by decide +kernel
theorem d_Fs_findLeads_68 : decode c0_Fs_findLeads 68 = .ok (.iinc 2 1, 3) := by decide +kernel
theorem d_Fs_findLeads_71 : decode c0_Fs_findLeads 71 = .ok (.goto (-42), 3) := by decide +kernel
theorem d_Fs_findLeads_74 : decode c0_Fs_findLeads 74 = .ok (.iinc 1 1, 3) := by decide +kernel
theorem d_Fs_findLeads_77 : decode c0_Fs_findLeads 77 = .ok (.goto (-65), 3) := by decide +kernel
theorem d_Fs_findLeads_80 : decode c0_Fs_findLeads 80 = .ok (.return_, 1) := by decide +kernel
def b_Fs_findLeads_74 (K : Nat → ClassId) (N : Nat) (k12 : Int32 → fh_H → Option (fh_H)) (o : Nat) (v1 : Int32) (h : fh_H) : Option (fh_H) :=
  (some (v1 + 1)).bind fun x1 => k12 x1 h
def b_Fs_findLeads_68 (K : Nat → ClassId) (N : Nat) (k12 : Int32 → fh_H → Option (fh_H)) (k29 : Int32 → Int32 → fh_H → Option (fh_H)) (o : Nat) (v1 : Int32) (v2 : Int32) (h : fh_H) : Option (fh_H) :=
  (some (v2 + 1)).bind fun x1 => k29 v1 x1 h
def b_Fs_findLeads_29 (K : Nat → ClassId) (N : Nat) (k12 : Int32 → fh_H → Option (fh_H)) (k29 : Int32 → Int32 → fh_H → Option (fh_H)) (o : Nat) (v1 : Int32) (v2 : Int32) (h : fh_H) : Option (fh_H) :=
  if v1 ≤ v2 then (b_Fs_findLeads_74 K N k12 o v1 h) else ((fg_a h (some o) 2 4).bind fun x1 => (fa_i (K 0) h x1 v1).bind fun x2 => if x2 = v1 then ((fg_a h (some o) 2 0).bind fun x3 => (f_FF_pack K N v2 v1 0 h).bind fun r4 => (fg_o r4.2 x3 3).bind fun o5 => (f_Dr_isShown K N o5 0 r4.1 r4.2).bind fun r6 => if r6.1 = 0 then (b_Fs_findLeads_68 K N k12 k29 o v1 v2 r6.2) else ((fg_a r6.2 (some o) 2 4).bind fun x7 => (fs_i (K 0) r6.2 x7 v1 v2).bind fun h8 => b_Fs_findLeads_68 K N k12 k29 o v1 v2 h8)) else (b_Fs_findLeads_74 K N k12 o v1 h))
def l_Fs_findLeads_29 (K : Nat → ClassId) (N : Nat) (k12 : Int32 → fh_H → Option (fh_H)) (o : Nat) : Nat → Int32 → Int32 → fh_H → Option (fh_H)
  | 0, _, _, _ => none
  | n + 1, v1, v2, h => b_Fs_findLeads_29 K N k12 (l_Fs_findLeads_29 K N k12 o n) o v1 v2 h
def b_Fs_findLeads_12 (K : Nat → ClassId) (N : Nat) (k12 : Int32 → fh_H → Option (fh_H)) (o : Nat) (v1 : Int32) (h : fh_H) : Option (fh_H) :=
  (fg_i h (some o) 2 7).bind fun x1 => if x1 ≤ v1 then (some h) else ((fg_a h (some o) 2 4).bind fun x2 => (fs_i (K 0) h x2 v1 v1).bind fun h3 => l_Fs_findLeads_29 K N k12 o N v1 0 h3)
def l_Fs_findLeads_12 (K : Nat → ClassId) (N : Nat) (o : Nat) : Nat → Int32 → fh_H → Option (fh_H)
  | 0, _, _ => none
  | n + 1, v1, h => b_Fs_findLeads_12 K N (l_Fs_findLeads_12 K N o n) o v1 h
def f_Fs_findLeads (K : Nat → ClassId) (N : Nat) (o : Nat)  (h0 : fh_H) : Option (fh_H) :=
  (fg_o h0 (some o) 2).bind fun o1 => (f_Fs_isNew K N o1 9 h0).bind fun r2 => if r2.1 = 0 then (some r2.2) else (l_Fs_findLeads_12 K N o N 0 r2.2)
set_option maxHeartbeats 4000000 in
set_option maxRecDepth 100000 in
theorem c_Fs_findLeads {l : Launch} {D : va_G} {K : Nat → ClassId} {t : Nat → Nat} {N : Nat} {o : Nat}  {h0 : fh_H} {res : fh_H} (hf : f_Fs_findLeads K N o  h0 = some res) : fC l D K t y_Fs_findLeads c0_Fs_findLeads 3 none rm_Fs_findLeads [.ref o] h0 (none) res := by
  refine fh_body (by decide) (Nat.le_of_ble_eq_true rfl) ?_
  intro p e s m below meth c A ls S hr hk hnm hE hAe hI hl
  obtain ⟨hx, hb, hml, hown, hts⟩ := id S
  have hl : lv_has ls 3 [(0, va_rf (some o))] := hl
  have L12 : ∀ (n12 : Nat) (v1 : Int32) (h : fh_H) (H : Heap) (locs : List Loc) (ls : Array Slot), lv_has ls 3 [(0, va_rf (some o)), (1, .int v1)] → fh_I D classes A s.heap h H locs → l_Fs_findLeads_12 K N o n12 v1 h = some res → W p l e rm_Fs_findLeads s m [.ref o].toArray below meth c H locs 0 0 (MQ below (fh_Q D classes h0 s.heap.size (none) res) [.ref o].toArray s 0 0 A) (F0 m 12 ls []) := by
    intro n12
    induction n12 with
    | zero =>
      intro v1 h H locs ls hl hI hf
      exact fh_no hf
    | succ n12 ih12 =>
      have B74 : ∀ (v1 : Int32) (h : fh_H) (H : Heap) (locs : List Loc) (ls : Array Slot), lv_has ls 3 [(0, va_rf (some o)), (1, .int v1)] → fh_I D classes A s.heap h H locs → b_Fs_findLeads_74 K N (l_Fs_findLeads_12 K N o n12) o v1 h = some res → W p l e rm_Fs_findLeads s m [.ref o].toArray below meth c H locs 0 0 (MQ below (fh_Q D classes h0 s.heap.size (none) res) [.ref o].toArray s 0 0 A) (F0 m 74 ls []) := by
        intro v1 h H locs ls hl hI hf
        unfold b_Fs_findLeads_74 at hf
        obtain ⟨x1, e_x1, hf⟩ := fh_b hf
        refine lv_iinc (v := x1) (lv' := [(1, .int x1), (0, va_rf (some o))]) hx hb d_Fs_findLeads_74 hl (k := 1) rfl (by rw [fh_qe e_x1]; rfl) (by decide) rfl (fun ls hl => ?_)
        refine lv_goto (tgt := 12) hx hb d_Fs_findLeads_77 (by decide) ?_
        exact ih12 x1 h _ _ _ (lv_sub hl [1, 0] rfl) hI hf
      have L29 : ∀ (n29 : Nat) (v1 : Int32) (v2 : Int32) (h : fh_H) (H : Heap) (locs : List Loc) (ls : Array Slot), lv_has ls 3 [(0, va_rf (some o)), (1, .int v1), (2, .int v2)] → fh_I D classes A s.heap h H locs → l_Fs_findLeads_29 K N (l_Fs_findLeads_12 K N o n12) o n29 v1 v2 h = some res → W p l e rm_Fs_findLeads s m [.ref o].toArray below meth c H locs 0 0 (MQ below (fh_Q D classes h0 s.heap.size (none) res) [.ref o].toArray s 0 0 A) (F0 m 29 ls []) := by
        intro n29
        induction n29 with
        | zero =>
          intro v1 v2 h H locs ls hl hI hf
          exact fh_no hf
        | succ n29 ih29 =>
          have B68 : ∀ (v1 : Int32) (v2 : Int32) (h : fh_H) (H : Heap) (locs : List Loc) (ls : Array Slot), lv_has ls 3 [(0, va_rf (some o)), (1, .int v1), (2, .int v2)] → fh_I D classes A s.heap h H locs → b_Fs_findLeads_68 K N (l_Fs_findLeads_12 K N o n12) (l_Fs_findLeads_29 K N (l_Fs_findLeads_12 K N o n12) o n29) o v1 v2 h = some res → W p l e rm_Fs_findLeads s m [.ref o].toArray below meth c H locs 0 0 (MQ below (fh_Q D classes h0 s.heap.size (none) res) [.ref o].toArray s 0 0 A) (F0 m 68 ls []) := by
            intro v1 v2 h H locs ls hl hI hf
            unfold b_Fs_findLeads_68 at hf
            obtain ⟨x1, e_x1, hf⟩ := fh_b hf
            refine lv_iinc (v := x1) (lv' := [(2, .int x1), (0, va_rf (some o)), (1, .int v1)]) hx hb d_Fs_findLeads_68 hl (k := 2) rfl (by rw [fh_qe e_x1]; rfl) (by decide) rfl (fun ls hl => ?_)
            refine lv_goto (tgt := 29) hx hb d_Fs_findLeads_71 (by decide) ?_
            exact ih29 v1 x1 h _ _ _ (lv_sub hl [1, 2, 0] rfl) hI hf
          intro v1 v2 h H locs ls hl hI hf
          have hf : b_Fs_findLeads_29 K N (l_Fs_findLeads_12 K N o n12) (l_Fs_findLeads_29 K N (l_Fs_findLeads_12 K N o n12) o n29) o v1 v2 h = some res := hf
          unfold b_Fs_findLeads_29 at hf
          refine lv_iload_n hx hb d_Fs_findLeads_29 rfl (lv_at hl 2 rfl) ?_
          refine lv_iload_n hx hb d_Fs_findLeads_30 rfl (lv_at hl 1 rfl) ?_
          refine lv_icmp_ge (tgt := 74) hx hb d_Fs_findLeads_31 (by decide) (fun c_31 => ?_) (fun c_31 => ?_)
          · replace hf := fh_t c_31 hf
            exact B74 v1 h _ _ _ (lv_sub hl [0, 1] rfl) hI hf
          · replace hf := fh_f c_31 hf
            refine fh_aload_n S d_Fs_findLeads_34 rfl (lv_at hl 0 rfl) ?_
            obtain ⟨x1, e_x1, hf⟩ := fh_b hf
            refine fh_geta S hE.1 hI e_x1 (hc := rfl) (hin := in_2) (by decide) (hts _ k_63) d_Fs_findLeads_35 ?_
            refine lv_iload_n hx hb d_Fs_findLeads_38 rfl (lv_at hl 1 rfl) ?_
            obtain ⟨x2, e_x2, hf⟩ := fh_b hf
            refine fh_iald S hE.1 hI 0 rfl e_x2 d_Fs_findLeads_39 ?_
            refine lv_iload_n hx hb d_Fs_findLeads_40 rfl (lv_at hl 1 rfl) ?_
            refine lv_icmp_ne (tgt := 74) hx hb d_Fs_findLeads_41 (by decide) (fun c_41 => ?_) (fun c_41 => ?_)
            · replace hf := fh_f c_41 hf
              exact B74 v1 h _ _ _ (lv_sub hl [0, 1] rfl) hI hf
            · replace hf := fh_t c_41 hf
              refine fh_aload_n S d_Fs_findLeads_44 rfl (lv_at hl 0 rfl) ?_
              obtain ⟨x3, e_x3, hf⟩ := fh_b hf
              refine fh_geta S hE.1 hI e_x3 (hc := rfl) (hin := in_2) (by decide) (hts _ k_64) d_Fs_findLeads_45 ?_
              refine lv_iconst (v := 0) hx hb d_Fs_findLeads_48 (by decide) ?_
              refine lv_iload_n hx hb d_Fs_findLeads_49 rfl (lv_at hl 2 rfl) ?_
              refine lv_iload_n hx hb d_Fs_findLeads_50 rfl (lv_at hl 1 rfl) ?_
              refine lv_iconst (v := 0) hx hb d_Fs_findLeads_51 (by decide) ?_
              obtain ⟨r4, e_r4, hf⟩ := fh_b hf
              refine fh_callSN (As := [.int v2, .int v1, .int 0]) (rest := [.int 0, va_rf x3]) S fT_good hE hI (c_FF_pack e_r4) fy_FF_pack fst_FF_pack kn_3 ⟨rfl, rfl⟩ ⟨Nat.le_of_ble_eq_true rfl, Nat.le_of_ble_eq_true rfl⟩ ⟨Nat.zero_le _, Nat.zero_le _⟩ rfl hl.1 rfl (Nat.le_trans (fh_cat _) (Nat.le_of_ble_eq_true rfl)) d_Fs_findLeads_52 (fun H locs hI => ?_)
              obtain ⟨o5, e_o5, hf⟩ := fh_b hf
              obtain ⟨r6, e_r6, hf⟩ := fh_b hf
              refine fh_callV (As := [.int 0, .int r4.1]) (rest := []) S fT_good hE hI e_o5 rfl (c_Dr_isShown e_r6) fy_Dr_isShown fst_Dr_isShown k_65 ⟨rfl, rfl⟩ ⟨Nat.le_of_ble_eq_true rfl, Nat.le_of_ble_eq_true rfl⟩ ⟨Nat.zero_le _, Nat.zero_le _⟩ rfl hl.1 rfl (Nat.le_of_ble_eq_true rfl) d_Fs_findLeads_55 (fun H locs hI => ?_)
              refine lv_if_eq (tgt := 68) hx hb d_Fs_findLeads_58 (by decide) (fun c_58 => ?_) (fun c_58 => ?_)
              · replace hf := fh_t c_58 hf
                exact B68 v1 v2 r6.2 _ _ _ (lv_sub hl [0, 1, 2] rfl) hI hf
              · replace hf := fh_f c_58 hf
                refine fh_aload_n S d_Fs_findLeads_61 rfl (lv_at hl 0 rfl) ?_
                obtain ⟨x7, e_x7, hf⟩ := fh_b hf
                refine fh_geta S hE.1 hI e_x7 (hc := rfl) (hin := in_2) (by decide) (hts _ k_63) d_Fs_findLeads_62 ?_
                refine lv_iload_n hx hb d_Fs_findLeads_65 rfl (lv_at hl 1 rfl) ?_
                refine lv_iload_n hx hb d_Fs_findLeads_66 rfl (lv_at hl 2 rfl) ?_
                obtain ⟨h8, e_h8, hf⟩ := fh_b hf
                refine fh_iast S hE.1 hI 0 rfl e_h8 d_Fs_findLeads_67 (fun H locs hI => ?_)
                exact B68 v1 v2 h8 _ _ _ (lv_sub hl [0, 1, 2] rfl) hI hf
      intro v1 h H locs ls hl hI hf
      have hf : b_Fs_findLeads_12 K N (l_Fs_findLeads_12 K N o n12) o v1 h = some res := hf
      unfold b_Fs_findLeads_12 at hf
      refine lv_iload_n hx hb d_Fs_findLeads_12 rfl (lv_at hl 1 rfl) ?_
      refine fh_aload_n S d_Fs_findLeads_13 rfl (lv_at hl 0 rfl) ?_
      obtain ⟨x1, e_x1, hf⟩ := fh_b hf
      refine fh_geti S hE.1 hI e_x1 (hc := rfl) (hin := in_2) (by decide) (hts _ k_38) d_Fs_findLeads_14 ?_
      refine lv_icmp_ge (tgt := 80) hx hb d_Fs_findLeads_17 (by decide) (fun c_17 => ?_) (fun c_17 => ?_)
      · replace hf := fh_t c_17 hf
        obtain rfl := Option.some.inj hf
        exact fh_vret S hr hk hAe hI d_Fs_findLeads_80
      · replace hf := fh_f c_17 hf
        refine fh_aload_n S d_Fs_findLeads_20 rfl (lv_at hl 0 rfl) ?_
        obtain ⟨x2, e_x2, hf⟩ := fh_b hf
        refine fh_geta S hE.1 hI e_x2 (hc := rfl) (hin := in_2) (by decide) (hts _ k_63) d_Fs_findLeads_21 ?_
        refine lv_iload_n hx hb d_Fs_findLeads_24 rfl (lv_at hl 1 rfl) ?_
        refine lv_iload_n hx hb d_Fs_findLeads_25 rfl (lv_at hl 1 rfl) ?_
        obtain ⟨h3, e_h3, hf⟩ := fh_b hf
        refine fh_iast S hE.1 hI 0 rfl e_h3 d_Fs_findLeads_26 (fun H locs hI => ?_)
        refine lv_iconst (v := 0) hx hb d_Fs_findLeads_27 (by decide) ?_
        refine lv_istore_n (lv' := [(2, .int 0), (0, va_rf (some o)), (1, .int v1)]) hx hb d_Fs_findLeads_28 rfl hl (by decide) rfl (fun ls hl => ?_)
        exact L29 N v1 0 h3 _ _ _ (lv_sub hl [1, 2, 0] rfl) hI hf
  unfold f_Fs_findLeads at hf
  refine fh_aload_n S d_Fs_findLeads_0 rfl (lv_at hl 0 rfl) ?_
  refine lv_bipush (v := 9) hx hb d_Fs_findLeads_1 (by decide) ?_
  obtain ⟨o1, e_o1, hf⟩ := fh_b hf
  obtain ⟨r2, e_r2, hf⟩ := fh_b hf
  refine fh_callV (As := [.int 9]) (rest := []) S fT_good hE hI e_o1 rfl (c_Fs_isNew e_r2) fy_Fs_isNew fst_Fs_isNew k_62 ⟨rfl, rfl⟩ ⟨Nat.le_of_ble_eq_true rfl, Nat.le_of_ble_eq_true rfl⟩ ⟨Nat.zero_le _, Nat.zero_le _⟩ rfl hl.1 rfl (Nat.le_of_ble_eq_true rfl) d_Fs_findLeads_3 (fun H locs hI => ?_)
  refine lv_if_ne (tgt := 10) hx hb d_Fs_findLeads_6 (by decide) (fun c_6 => ?_) (fun c_6 => ?_)
  · replace hf := fh_f c_6 hf
    refine lv_iconst (v := 0) hx hb d_Fs_findLeads_10 (by decide) ?_
    refine lv_istore_n (lv' := [(1, .int 0), (0, va_rf (some o))]) hx hb d_Fs_findLeads_11 rfl hl (by decide) rfl (fun ls hl => ?_)
    exact L12 N 0 r2.2 _ _ _ (lv_sub hl [1, 0] rfl) hI hf
  · replace hf := fh_t c_6 hf
    obtain rfl := Option.some.inj hf
    exact fh_vret S hr hk hAe hI d_Fs_findLeads_9
theorem d_In_bitCount_0 : decode c0_In_bitCount 0 = .ok (.iload_n 0, 1) := by decide +kernel
theorem d_In_bitCount_1 : decode c0_In_bitCount 1 = .ok (.iload_n 0, 1) := by decide +kernel
theorem d_In_bitCount_2 : decode c0_In_bitCount 2 = .ok (.iconst 1, 1) := by decide +kernel
theorem d_In_bitCount_3 : decode c0_In_bitCount 3 = .ok (.iushr, 1) := by decide +kernel
theorem d_In_bitCount_4 : decode c0_In_bitCount 4 = .ok (.ldc_w 265, 3) := by decide +kernel
theorem d_In_bitCount_7 : decode c0_In_bitCount 7 = .ok (.iand, 1) := by decide +kernel
theorem d_In_bitCount_8 : decode c0_In_bitCount 8 = .ok (.isub, 1) := by decide +kernel
theorem d_In_bitCount_9 : decode c0_In_bitCount 9 = .ok (.istore_n 0, 1) := by decide +kernel
theorem d_In_bitCount_10 : decode c0_In_bitCount 10 = .ok (.iload_n 0, 1) := by decide +kernel
theorem d_In_bitCount_11 : decode c0_In_bitCount 11 = .ok (.ldc_w 266, 3) := by decide +kernel
theorem d_In_bitCount_14 : decode c0_In_bitCount 14 = .ok (.iand, 1) := by decide +kernel
theorem d_In_bitCount_15 : decode c0_In_bitCount 15 = .ok (.iload_n 0, 1) := by decide +kernel
theorem d_In_bitCount_16 : decode c0_In_bitCount 16 = .ok (.iconst 2, 1) := by decide +kernel
theorem d_In_bitCount_17 : decode c0_In_bitCount 17 = .ok (.iushr, 1) := by decide +kernel
theorem d_In_bitCount_18 : decode c0_In_bitCount 18 = .ok (.ldc_w 266, 3) := by decide +kernel
theorem d_In_bitCount_21 : decode c0_In_bitCount 21 = .ok (.iand, 1) := by decide +kernel
theorem d_In_bitCount_22 : decode c0_In_bitCount 22 = .ok (.iadd, 1) := by decide +kernel
theorem d_In_bitCount_23 : decode c0_In_bitCount 23 = .ok (.istore_n 0, 1) := by decide +kernel
theorem d_In_bitCount_24 : decode c0_In_bitCount 24 = .ok (.iload_n 0, 1) := by decide +kernel
theorem d_In_bitCount_25 : decode c0_In_bitCount 25 = .ok (.iload_n 0, 1) := by decide +kernel
theorem d_In_bitCount_26 : decode c0_In_bitCount 26 = .ok (.iconst 4, 1) := by decide +kernel
theorem d_In_bitCount_27 : decode c0_In_bitCount 27 = .ok (.iushr, 1) := by decide +kernel
theorem d_In_bitCount_28 : decode c0_In_bitCount 28 = .ok (.iadd, 1) := by decide +kernel
theorem d_In_bitCount_29 : decode c0_In_bitCount 29 = .ok (.ldc_w 267, 3) := by decide +kernel
theorem d_In_bitCount_32 : decode c0_In_bitCount 32 = .ok (.iand, 1) := by decide +kernel
theorem d_In_bitCount_33 : decode c0_In_bitCount 33 = .ok (.istore_n 0, 1) := by decide +kernel
theorem d_In_bitCount_34 : decode c0_In_bitCount 34 = .ok (.iload_n 0, 1) := by decide +kernel
theorem d_In_bitCount_35 : decode c0_In_bitCount 35 = .ok (.iload_n 0, 1) := by decide +kernel
theorem d_In_bitCount_36 : decode c0_In_bitCount 36 = .ok (.bipush 8, 2) := by decide +kernel
theorem d_In_bitCount_38 : decode c0_In_bitCount 38 = .ok (.iushr, 1) := by decide +kernel
theorem d_In_bitCount_39 : decode c0_In_bitCount 39 = .ok (.iadd, 1) := by decide +kernel
theorem d_In_bitCount_40 : decode c0_In_bitCount 40 = .ok (.istore_n 0, 1) := by decide +kernel
theorem d_In_bitCount_41 : decode c0_In_bitCount 41 = .ok (.iload_n 0, 1) := by decide +kernel
theorem d_In_bitCount_42 : decode c0_In_bitCount 42 = .ok (.iload_n 0, 1) := by decide +kernel
theorem d_In_bitCount_43 : decode c0_In_bitCount 43 = .ok (.bipush 16, 2) := by decide +kernel
theorem d_In_bitCount_45 : decode c0_In_bitCount 45 = .ok (.iushr, 1) := by decide +kernel
theorem d_In_bitCount_46 : decode c0_In_bitCount 46 = .ok (.iadd, 1) := by decide +kernel
theorem d_In_bitCount_47 : decode c0_In_bitCount 47 = .ok (.istore_n 0, 1) := by decide +kernel
theorem d_In_bitCount_48 : decode c0_In_bitCount 48 = .ok (.iload_n 0, 1) := by decide +kernel
theorem d_In_bitCount_49 : decode c0_In_bitCount 49 = .ok (.bipush 63, 2) := by decide +kernel
theorem d_In_bitCount_51 : decode c0_In_bitCount 51 = .ok (.iand, 1) := by decide +kernel
theorem d_In_bitCount_52 : decode c0_In_bitCount 52 = .ok (.ireturn, 1) := by decide +kernel
def f_In_bitCount (K : Nat → ClassId) (N : Nat) (a0 : Int32) (h0 : fh_H) : Option (Int32 × fh_H) :=
  (some ((a0.toUInt32 >>> ((1 : Int32).toUInt32 &&& Int32.toUInt32 31)).toInt32)).bind fun x1 => (some (a0 - (x1 &&& 1431655765))).bind fun x2 => (some ((x2.toUInt32 >>> ((2 : Int32).toUInt32 &&& Int32.toUInt32 31)).toInt32)).bind fun x3 => (some ((x2 &&& 858993459) + (x3 &&& 858993459))).bind fun x4 => (some ((x4.toUInt32 >>> ((4 : Int32).toUInt32 &&& Int32.toUInt32 31)).toInt32)).bind fun x5 => (some ((x4 + x5) &&& 252645135)).bind fun x6 => (some ((x6.toUInt32 >>> ((8 : Int32).toUInt32 &&& Int32.toUInt32 31)).toInt32)).bind fun x7 => (some (x6 + x7)).bind fun x8 => (some ((x8.toUInt32 >>> ((16 : Int32).toUInt32 &&& Int32.toUInt32 31)).toInt32)).bind fun x9 => (some (x8 + x9)).bind fun x10 => some (x10 &&& 63, h0)
set_option maxHeartbeats 4000000 in
set_option maxRecDepth 100000 in
theorem c_In_bitCount {l : Launch} {D : va_G} {K : Nat → ClassId} {t : Nat → Nat} {N : Nat} {a0 : Int32} {h0 : fh_H} {res : Int32 × fh_H} (hf : f_In_bitCount K N a0 h0 = some res) : fC l D K t y_In_bitCount c0_In_bitCount 1 (some .int) rm_In_bitCount [.int a0] h0 (some (.int res.1)) res.2 := by
  refine fh_body (by decide) (Nat.le_of_ble_eq_true rfl) ?_
  intro p e s m below meth c A ls S hr hk hnm hE hAe hI hl
  obtain ⟨hx, hb, hml, hown, hts⟩ := id S
  have hl : lv_has ls 1 [(0, .int a0)] := hl
  unfold f_In_bitCount at hf
  refine lv_iload_n hx hb d_In_bitCount_0 rfl (lv_at hl 0 rfl) ?_
  refine lv_iload_n hx hb d_In_bitCount_1 rfl (lv_at hl 0 rfl) ?_
  refine lv_iconst (v := 1) hx hb d_In_bitCount_2 (by decide) ?_
  refine lv_iushr hx hb d_In_bitCount_3 rfl ?_
  obtain ⟨x1, e_x1, hf⟩ := fh_b hf
  refine fh_topi e_x1 ?_
  refine lv_ldcw hx hb hown (hts _ k_66) d_In_bitCount_4 ?_
  refine lv_iand hx hb d_In_bitCount_7 ?_
  refine lv_isub hx hb d_In_bitCount_8 ?_
  obtain ⟨x2, e_x2, hf⟩ := fh_b hf
  refine fh_topi e_x2 ?_
  refine lv_istore_n (lv' := [(0, .int x2)]) hx hb d_In_bitCount_9 rfl hl (by decide) rfl (fun ls hl => ?_)
  refine lv_iload_n hx hb d_In_bitCount_10 rfl (lv_at hl 0 rfl) ?_
  refine lv_ldcw hx hb hown (hts _ k_67) d_In_bitCount_11 ?_
  refine lv_iand hx hb d_In_bitCount_14 ?_
  refine lv_iload_n hx hb d_In_bitCount_15 rfl (lv_at hl 0 rfl) ?_
  refine lv_iconst (v := 2) hx hb d_In_bitCount_16 (by decide) ?_
  refine lv_iushr hx hb d_In_bitCount_17 rfl ?_
  obtain ⟨x3, e_x3, hf⟩ := fh_b hf
  refine fh_topi e_x3 ?_
  refine lv_ldcw hx hb hown (hts _ k_67) d_In_bitCount_18 ?_
  refine lv_iand hx hb d_In_bitCount_21 ?_
  refine lv_iadd hx hb d_In_bitCount_22 ?_
  obtain ⟨x4, e_x4, hf⟩ := fh_b hf
  refine fh_topi e_x4 ?_
  refine lv_istore_n (lv' := [(0, .int x4)]) hx hb d_In_bitCount_23 rfl hl (by decide) rfl (fun ls hl => ?_)
  refine lv_iload_n hx hb d_In_bitCount_24 rfl (lv_at hl 0 rfl) ?_
  refine lv_iload_n hx hb d_In_bitCount_25 rfl (lv_at hl 0 rfl) ?_
  refine lv_iconst (v := 4) hx hb d_In_bitCount_26 (by decide) ?_
  refine lv_iushr hx hb d_In_bitCount_27 rfl ?_
  obtain ⟨x5, e_x5, hf⟩ := fh_b hf
  refine fh_topi e_x5 ?_
  refine lv_iadd hx hb d_In_bitCount_28 ?_
  refine lv_ldcw hx hb hown (hts _ k_68) d_In_bitCount_29 ?_
  refine lv_iand hx hb d_In_bitCount_32 ?_
  obtain ⟨x6, e_x6, hf⟩ := fh_b hf
  refine fh_topi e_x6 ?_
  refine lv_istore_n (lv' := [(0, .int x6)]) hx hb d_In_bitCount_33 rfl hl (by decide) rfl (fun ls hl => ?_)
  refine lv_iload_n hx hb d_In_bitCount_34 rfl (lv_at hl 0 rfl) ?_
  refine lv_iload_n hx hb d_In_bitCount_35 rfl (lv_at hl 0 rfl) ?_
  refine lv_bipush (v := 8) hx hb d_In_bitCount_36 (by decide) ?_
  refine lv_iushr hx hb d_In_bitCount_38 rfl ?_
  obtain ⟨x7, e_x7, hf⟩ := fh_b hf
  refine fh_topi e_x7 ?_
  refine lv_iadd hx hb d_In_bitCount_39 ?_
  obtain ⟨x8, e_x8, hf⟩ := fh_b hf
  refine fh_topi e_x8 ?_
  refine lv_istore_n (lv' := [(0, .int x8)]) hx hb d_In_bitCount_40 rfl hl (by decide) rfl (fun ls hl => ?_)
  refine lv_iload_n hx hb d_In_bitCount_41 rfl (lv_at hl 0 rfl) ?_
  refine lv_iload_n hx hb d_In_bitCount_42 rfl (lv_at hl 0 rfl) ?_
  refine lv_bipush (v := 16) hx hb d_In_bitCount_43 (by decide) ?_
  refine lv_iushr hx hb d_In_bitCount_45 rfl ?_
  obtain ⟨x9, e_x9, hf⟩ := fh_b hf
  refine fh_topi e_x9 ?_
  refine lv_iadd hx hb d_In_bitCount_46 ?_
  obtain ⟨x10, e_x10, hf⟩ := fh_b hf
  refine fh_topi e_x10 ?_
  refine lv_istore_n (lv' := [(0, .int x10)]) hx hb d_In_bitCount_47 rfl hl (by decide) rfl (fun ls hl => ?_)
  refine lv_iload_n hx hb d_In_bitCount_48 rfl (lv_at hl 0 rfl) ?_
  refine lv_bipush (v := 63) hx hb d_In_bitCount_49 (by decide) ?_
  refine lv_iand hx hb d_In_bitCount_51 ?_
  obtain rfl := Option.some.inj hf
  exact fh_iret S hr hk rfl hAe hI d_In_bitCount_52
theorem d_Fs_placesOf_0 : decode c0_Fs_placesOf 0 = .ok (.iconst 0, 1) := by decide +kernel
theorem d_Fs_placesOf_1 : decode c0_Fs_placesOf 1 = .ok (.istore_n 2, 1) := by decide +kernel
theorem d_Fs_placesOf_2 : decode c0_Fs_placesOf 2 = .ok (.iconst 0, 1) := by decide +kernel
theorem d_Fs_placesOf_3 : decode c0_Fs_placesOf 3 = .ok (.istore_n 3, 1) := by decide +kernel
theorem d_Fs_placesOf_4 : decode c0_Fs_placesOf 4 = .ok (.iload_n 3, 1) := by decide +kernel
theorem d_Fs_placesOf_5 : decode c0_Fs_placesOf 5 = .ok (.aload_n 0, 1) := by decide +kernel
theorem d_Fs_placesOf_6 : decode c0_Fs_placesOf 6 = .ok (.getfield 48, 3) := by decide +kernel
theorem d_Fs_placesOf_9 : decode c0_Fs_placesOf 9 = .ok (.if_icmp .ge 29, 3) := by decide +kernel
theorem d_Fs_placesOf_12 : decode c0_Fs_placesOf 12 = .ok (.iload_n 1, 1) := by decide +kernel
theorem d_Fs_placesOf_13 : decode c0_Fs_placesOf 13 = .ok (.iload_n 3, 1) := by decide +kernel
theorem d_Fs_placesOf_14 : decode c0_Fs_placesOf 14 = .ok (.ishr, 1) := by decide +kernel
theorem d_Fs_placesOf_15 : decode c0_Fs_placesOf 15 = .ok (.iconst 1, 1) := by decide +kernel
theorem d_Fs_placesOf_16 : decode c0_Fs_placesOf 16 = .ok (.iand, 1) := by decide +kernel
theorem d_Fs_placesOf_17 : decode c0_Fs_placesOf 17 = .ok (.iconst 1, 1) := by decide +kernel
theorem d_Fs_placesOf_18 : decode c0_Fs_placesOf 18 = .ok (.if_icmp .ne 14, 3) := by decide +kernel
theorem d_Fs_placesOf_21 : decode c0_Fs_placesOf 21 = .ok (.iload_n 2, 1) := by decide +kernel
theorem d_Fs_placesOf_22 : decode c0_Fs_placesOf 22 = .ok (.iconst 1, 1) := by decide +kernel
theorem d_Fs_placesOf_23 : decode c0_Fs_placesOf 23 = .ok (.aload_n 0, 1) := by decide +kernel
theorem d_Fs_placesOf_24 : decode c0_Fs_placesOf 24 = .ok (.getfield 34, 3) := by decide +kernel
theorem d_Fs_placesOf_27 : decode c0_Fs_placesOf 27 = .ok (.iload_n 3, 1) := by decide +kernel
theorem d_Fs_placesOf_28 : decode c0_Fs_placesOf 28 = .ok (.iaload, 1) := by decide +kernel
theorem d_Fs_placesOf_29 : decode c0_Fs_placesOf 29 = .ok (.ishl, 1) := by decide +kernel
theorem d_Fs_placesOf_30 : decode c0_Fs_placesOf 30 = .ok (.ior, 1) := by decide +kernel
theorem d_Fs_placesOf_31 : decode c0_Fs_placesOf 31 = .ok (.istore_n 2, 1) := by decide +kernel
theorem d_Fs_placesOf_32 : decode c0_Fs_placesOf 32 = .ok (.iinc 3 1, 3) := by decide +kernel
theorem d_Fs_placesOf_35 : decode c0_Fs_placesOf 35 = .ok (.goto (-31), 3) := by decide +kernel
theorem d_Fs_placesOf_38 : decode c0_Fs_placesOf 38 = .ok (.iload_n 2, 1) := by decide +kernel
theorem d_Fs_placesOf_39 : decode c0_Fs_placesOf 39 = .ok (.invokestatic 113, 3) := by decide +kernel
theorem d_Fs_placesOf_42 : decode c0_Fs_placesOf 42 = .ok (.ireturn, 1) := by decide +kernel
def b_Fs_placesOf_32 (K : Nat → ClassId) (N : Nat) (k4 : Int32 → Int32 → Int32 → fh_H → Option (Int32 × fh_H)) (o : Nat) (v1 : Int32) (v2 : Int32) (v3 : Int32) (h : fh_H) : Option (Int32 × fh_H) :=
  (some (v3 + 1)).bind fun x1 => k4 v1 v2 x1 h
def b_Fs_placesOf_4 (K : Nat → ClassId) (N : Nat) (k4 : Int32 → Int32 → Int32 → fh_H → Option (Int32 × fh_H)) (o : Nat) (v1 : Int32) (v2 : Int32) (v3 : Int32) (h : fh_H) : Option (Int32 × fh_H) :=
  (fg_i h (some o) 2 7).bind fun x1 => if x1 ≤ v3 then ((f_In_bitCount K N v2 h).bind fun r2 => some (r2.1, r2.2)) else (if ((v1 >>> (v3 &&& 31)) &&& 1) = 1 then ((fg_a h (some o) 2 4).bind fun x3 => (fa_i (K 0) h x3 v3).bind fun x4 => (some (v2 ||| ((1 : Int32) <<< (x4 &&& 31)))).bind fun x5 => b_Fs_placesOf_32 K N k4 o v1 x5 v3 h) else (b_Fs_placesOf_32 K N k4 o v1 v2 v3 h))
def l_Fs_placesOf_4 (K : Nat → ClassId) (N : Nat) (o : Nat) : Nat → Int32 → Int32 → Int32 → fh_H → Option (Int32 × fh_H)
  | 0, _, _, _, _ => none
  | n + 1, v1, v2, v3, h => b_Fs_placesOf_4 K N (l_Fs_placesOf_4 K N o n) o v1 v2 v3 h
def f_Fs_placesOf (K : Nat → ClassId) (N : Nat) (o : Nat) (a1 : Int32) (h0 : fh_H) : Option (Int32 × fh_H) :=
  l_Fs_placesOf_4 K N o N a1 0 0 h0
set_option maxHeartbeats 4000000 in
set_option maxRecDepth 100000 in
theorem c_Fs_placesOf {l : Launch} {D : va_G} {K : Nat → ClassId} {t : Nat → Nat} {N : Nat} {o : Nat} {a1 : Int32} {h0 : fh_H} {res : Int32 × fh_H} (hf : f_Fs_placesOf K N o a1 h0 = some res) : fC l D K t y_Fs_placesOf c0_Fs_placesOf 4 (some .int) rm_Fs_placesOf [.ref o, .int a1] h0 (some (.int res.1)) res.2 := by
  refine fh_body (by decide) (Nat.le_of_ble_eq_true rfl) ?_
  intro p e s m below meth c A ls S hr hk hnm hE hAe hI hl
  obtain ⟨hx, hb, hml, hown, hts⟩ := id S
  have hl : lv_has ls 4 [(0, va_rf (some o)), (1, .int a1)] := hl
  have L4 : ∀ (n4 : Nat) (v1 : Int32) (v2 : Int32) (v3 : Int32) (h : fh_H) (H : Heap) (locs : List Loc) (ls : Array Slot), lv_has ls 4 [(0, va_rf (some o)), (1, .int v1), (2, .int v2), (3, .int v3)] → fh_I D classes A s.heap h H locs → l_Fs_placesOf_4 K N o n4 v1 v2 v3 h = some res → W p l e rm_Fs_placesOf s m [.ref o, .int a1].toArray below meth c H locs 0 0 (MQ below (fh_Q D classes h0 s.heap.size (some (.int res.1)) res.2) [.ref o, .int a1].toArray s 0 0 A) (F0 m 4 ls []) := by
    intro n4
    induction n4 with
    | zero =>
      intro v1 v2 v3 h H locs ls hl hI hf
      exact fh_no hf
    | succ n4 ih4 =>
      have B32 : ∀ (v1 : Int32) (v2 : Int32) (v3 : Int32) (h : fh_H) (H : Heap) (locs : List Loc) (ls : Array Slot), lv_has ls 4 [(0, va_rf (some o)), (1, .int v1), (2, .int v2), (3, .int v3)] → fh_I D classes A s.heap h H locs → b_Fs_placesOf_32 K N (l_Fs_placesOf_4 K N o n4) o v1 v2 v3 h = some res → W p l e rm_Fs_placesOf s m [.ref o, .int a1].toArray below meth c H locs 0 0 (MQ below (fh_Q D classes h0 s.heap.size (some (.int res.1)) res.2) [.ref o, .int a1].toArray s 0 0 A) (F0 m 32 ls []) := by
        intro v1 v2 v3 h H locs ls hl hI hf
        unfold b_Fs_placesOf_32 at hf
        obtain ⟨x1, e_x1, hf⟩ := fh_b hf
        refine lv_iinc (v := x1) (lv' := [(3, .int x1), (0, va_rf (some o)), (1, .int v1), (2, .int v2)]) hx hb d_Fs_placesOf_32 hl (k := 3) rfl (by rw [fh_qe e_x1]; rfl) (by decide) rfl (fun ls hl => ?_)
        refine lv_goto (tgt := 4) hx hb d_Fs_placesOf_35 (by decide) ?_
        exact ih4 v1 v2 x1 h _ _ _ (lv_sub hl [1, 2, 3, 0] rfl) hI hf
      intro v1 v2 v3 h H locs ls hl hI hf
      have hf : b_Fs_placesOf_4 K N (l_Fs_placesOf_4 K N o n4) o v1 v2 v3 h = some res := hf
      unfold b_Fs_placesOf_4 at hf
      refine lv_iload_n hx hb d_Fs_placesOf_4 rfl (lv_at hl 3 rfl) ?_
      refine fh_aload_n S d_Fs_placesOf_5 rfl (lv_at hl 0 rfl) ?_
      obtain ⟨x1, e_x1, hf⟩ := fh_b hf
      refine fh_geti S hE.1 hI e_x1 (hc := rfl) (hin := in_2) (by decide) (hts _ k_38) d_Fs_placesOf_6 ?_
      refine lv_icmp_ge (tgt := 38) hx hb d_Fs_placesOf_9 (by decide) (fun c_9 => ?_) (fun c_9 => ?_)
      · replace hf := fh_t c_9 hf
        refine lv_iload_n hx hb d_Fs_placesOf_38 rfl (lv_at hl 2 rfl) ?_
        obtain ⟨r2, e_r2, hf⟩ := fh_b hf
        refine fh_callS (As := [.int v2]) (rest := []) S fT_good hE hI (c_In_bitCount e_r2) fy_In_bitCount fst_In_bitCount k_69 ⟨rfl, rfl⟩ ⟨Nat.le_of_ble_eq_true rfl, Nat.le_of_ble_eq_true rfl⟩ ⟨Nat.zero_le _, Nat.zero_le _⟩ rfl hl.1 rfl (Nat.le_of_ble_eq_true rfl) d_Fs_placesOf_39 (fun H locs hI => ?_)
        obtain rfl := Option.some.inj hf
        exact fh_iret S hr hk rfl hAe hI d_Fs_placesOf_42
      · replace hf := fh_f c_9 hf
        refine lv_iload_n hx hb d_Fs_placesOf_12 rfl (lv_at hl 1 rfl) ?_
        refine lv_iload_n hx hb d_Fs_placesOf_13 rfl (lv_at hl 3 rfl) ?_
        refine lv_ishr hx hb d_Fs_placesOf_14 ?_
        refine lv_iconst (v := 1) hx hb d_Fs_placesOf_15 (by decide) ?_
        refine lv_iand hx hb d_Fs_placesOf_16 ?_
        refine lv_iconst (v := 1) hx hb d_Fs_placesOf_17 (by decide) ?_
        refine lv_icmp_ne (tgt := 32) hx hb d_Fs_placesOf_18 (by decide) (fun c_18 => ?_) (fun c_18 => ?_)
        · replace hf := fh_f c_18 hf
          exact B32 v1 v2 v3 h _ _ _ (lv_sub hl [0, 1, 2, 3] rfl) hI hf
        · replace hf := fh_t c_18 hf
          refine lv_iload_n hx hb d_Fs_placesOf_21 rfl (lv_at hl 2 rfl) ?_
          refine lv_iconst (v := 1) hx hb d_Fs_placesOf_22 (by decide) ?_
          refine fh_aload_n S d_Fs_placesOf_23 rfl (lv_at hl 0 rfl) ?_
          obtain ⟨x3, e_x3, hf⟩ := fh_b hf
          refine fh_geta S hE.1 hI e_x3 (hc := rfl) (hin := in_2) (by decide) (hts _ k_63) d_Fs_placesOf_24 ?_
          refine lv_iload_n hx hb d_Fs_placesOf_27 rfl (lv_at hl 3 rfl) ?_
          obtain ⟨x4, e_x4, hf⟩ := fh_b hf
          refine fh_iald S hE.1 hI 0 rfl e_x4 d_Fs_placesOf_28 ?_
          refine lv_ishl hx hb d_Fs_placesOf_29 ?_
          refine lv_ior hx hb d_Fs_placesOf_30 ?_
          obtain ⟨x5, e_x5, hf⟩ := fh_b hf
          refine fh_topi e_x5 ?_
          refine lv_istore_n (lv' := [(2, .int x5), (0, va_rf (some o)), (1, .int v1), (3, .int v3)]) hx hb d_Fs_placesOf_31 rfl hl (by decide) rfl (fun ls hl => ?_)
          exact B32 v1 x5 v3 h _ _ _ (lv_sub hl [1, 2, 0, 3] rfl) hI hf
  unfold f_Fs_placesOf at hf
  refine lv_iconst (v := 0) hx hb d_Fs_placesOf_0 (by decide) ?_
  refine lv_istore_n (lv' := [(2, .int 0), (0, va_rf (some o)), (1, .int a1)]) hx hb d_Fs_placesOf_1 rfl hl (by decide) rfl (fun ls hl => ?_)
  refine lv_iconst (v := 0) hx hb d_Fs_placesOf_2 (by decide) ?_
  refine lv_istore_n (lv' := [(3, .int 0), (2, .int 0), (0, va_rf (some o)), (1, .int a1)]) hx hb d_Fs_placesOf_3 rfl hl (by decide) rfl (fun ls hl => ?_)
  exact L4 N a1 0 0 h0 _ _ _ (lv_sub hl [2, 3, 1, 0] rfl) hI hf
theorem d_Fs_countPlaces_0 : decode c0_Fs_countPlaces 0 = .ok (.aload_n 0, 1) := by decide +kernel
theorem d_Fs_countPlaces_1 : decode c0_Fs_countPlaces 1 = .ok (.invokevirtual 55, 3) := by decide +kernel
theorem d_Fs_countPlaces_4 : decode c0_Fs_countPlaces 4 = .ok (.aload_n 0, 1) := by decide +kernel
theorem d_Fs_countPlaces_5 : decode c0_Fs_countPlaces 5 = .ok (.iconst 1, 1) := by decide +kernel
theorem d_Fs_countPlaces_6 : decode c0_Fs_countPlaces 6 = .ok (.aload_n 0, 1) := by decide +kernel
theorem d_Fs_countPlaces_7 : decode c0_Fs_countPlaces 7 = .ok (.getfield 48, 3) := by decide +kernel
theorem d_Fs_countPlaces_10 : decode c0_Fs_countPlaces 10 = .ok (.ishl, 1) := by decide +kernel
theorem d_Fs_countPlaces_11 : decode c0_Fs_countPlaces 11 = .ok (.iconst 1, 1) := by decide +kernel
theorem d_Fs_countPlaces_12 : decode c0_Fs_countPlaces 12 = .ok (.isub, 1) := by decide +kernel
theorem d_Fs_countPlaces_13 : decode c0_Fs_countPlaces 13 = .ok (.invokevirtual 58, 3) := by decide +kernel
theorem d_Fs_countPlaces_16 : decode c0_Fs_countPlaces 16 = .ok (.ireturn, 1) := by decide +kernel
def f_Fs_countPlaces (K : Nat → ClassId) (N : Nat) (o : Nat)  (h0 : fh_H) : Option (Int32 × fh_H) :=
  (fg_o h0 (some o) 2).bind fun o1 => (f_Fs_findLeads K N o1 h0).bind fun r2 => (fg_i r2 (some o) 2 7).bind fun x3 => (fg_o r2 (some o) 2).bind fun o4 => (f_Fs_placesOf K N o4 (((1 : Int32) <<< (x3 &&& 31)) - 1) r2).bind fun r5 => some (r5.1, r5.2)
set_option maxHeartbeats 4000000 in
set_option maxRecDepth 100000 in
theorem c_Fs_countPlaces {l : Launch} {D : va_G} {K : Nat → ClassId} {t : Nat → Nat} {N : Nat} {o : Nat}  {h0 : fh_H} {res : Int32 × fh_H} (hf : f_Fs_countPlaces K N o  h0 = some res) : fC l D K t y_Fs_countPlaces c0_Fs_countPlaces 1 (some .int) rm_Fs_countPlaces [.ref o] h0 (some (.int res.1)) res.2 := by
  refine fh_body (by decide) (Nat.le_of_ble_eq_true rfl) ?_
  intro p e s m below meth c A ls S hr hk hnm hE hAe hI hl
  obtain ⟨hx, hb, hml, hown, hts⟩ := id S
  have hl : lv_has ls 1 [(0, va_rf (some o))] := hl
  unfold f_Fs_countPlaces at hf
  refine fh_aload_n S d_Fs_countPlaces_0 rfl (lv_at hl 0 rfl) ?_
  obtain ⟨o1, e_o1, hf⟩ := fh_b hf
  obtain ⟨r2, e_r2, hf⟩ := fh_b hf
  refine fh_callV (As := []) (rest := []) S fT_good hE hI e_o1 rfl (c_Fs_findLeads e_r2) fy_Fs_findLeads fst_Fs_findLeads k_70 ⟨rfl, rfl⟩ ⟨Nat.le_of_ble_eq_true rfl, Nat.le_of_ble_eq_true rfl⟩ ⟨Nat.zero_le _, Nat.zero_le _⟩ rfl hl.1 rfl (Nat.le_of_ble_eq_true rfl) d_Fs_countPlaces_1 (fun H locs hI => ?_)
  refine fh_aload_n S d_Fs_countPlaces_4 rfl (lv_at hl 0 rfl) ?_
  refine lv_iconst (v := 1) hx hb d_Fs_countPlaces_5 (by decide) ?_
  refine fh_aload_n S d_Fs_countPlaces_6 rfl (lv_at hl 0 rfl) ?_
  obtain ⟨x3, e_x3, hf⟩ := fh_b hf
  refine fh_geti S hE.1 hI e_x3 (hc := rfl) (hin := in_2) (by decide) (hts _ k_38) d_Fs_countPlaces_7 ?_
  refine lv_ishl hx hb d_Fs_countPlaces_10 ?_
  refine lv_iconst (v := 1) hx hb d_Fs_countPlaces_11 (by decide) ?_
  refine lv_isub hx hb d_Fs_countPlaces_12 ?_
  obtain ⟨o4, e_o4, hf⟩ := fh_b hf
  obtain ⟨r5, e_r5, hf⟩ := fh_b hf
  refine fh_callV (As := [.int (((1 : Int32) <<< (x3 &&& 31)) - 1)]) (rest := []) S fT_good hE hI e_o4 rfl (c_Fs_placesOf e_r5) fy_Fs_placesOf fst_Fs_placesOf k_71 ⟨rfl, rfl⟩ ⟨Nat.le_of_ble_eq_true rfl, Nat.le_of_ble_eq_true rfl⟩ ⟨Nat.zero_le _, Nat.zero_le _⟩ rfl hl.1 rfl (Nat.le_of_ble_eq_true rfl) d_Fs_countPlaces_13 (fun H locs hI => ?_)
  obtain rfl := Option.some.inj hf
  exact fh_iret S hr hk rfl hAe hI d_Fs_countPlaces_16
theorem d_FF_count_0 : decode c0_FF_count 0 = .ok (.iload_n 1, 1) := by decide +kernel
theorem d_FF_count_1 : decode c0_FF_count 1 = .ok (.tableswitch 72 0 4 #[35, 43, 48, 59, 64], 35) := by decide +kernel
theorem d_FF_count_36 : decode c0_FF_count 36 = .ok (.aload_n 0, 1) := by decide +kernel
theorem d_FF_count_37 : decode c0_FF_count 37 = .ok (.getfield 10, 3) := by decide +kernel
theorem d_FF_count_40 : decode c0_FF_count 40 = .ok (.getfield 40, 3) := by decide +kernel
theorem d_FF_count_43 : decode c0_FF_count 43 = .ok (.ireturn, 1) := by decide +kernel
theorem d_FF_count_44 : decode c0_FF_count 44 = .ok (.aload_n 0, 1) := by decide +kernel
theorem d_FF_count_45 : decode c0_FF_count 45 = .ok (.getfield 34, 3) := by decide +kernel
theorem d_FF_count_48 : decode c0_FF_count 48 = .ok (.ireturn, 1) := by decide +kernel
theorem d_FF_count_49 : decode c0_FF_count 49 = .ok (.aload_n 0, 1) := by decide +kernel
theorem d_FF_count_50 : decode c0_FF_count 50 = .ok (.getfield 19, 3) := by decide +kernel
theorem d_FF_count_53 : decode c0_FF_count 53 = .ok (.getfield 51, 3) := by decide +kernel
theorem d_FF_count_56 : decode c0_FF_count 56 = .ok (.getfield 71, 3) := by decide +kernel
theorem d_FF_count_59 : decode c0_FF_count 59 = .ok (.ireturn, 1) := by decide +kernel
theorem d_FF_count_60 : decode c0_FF_count 60 = .ok (.aload_n 0, 1) := by decide +kernel
theorem d_FF_count_61 : decode c0_FF_count 61 = .ok (.getfield 30, 3) := by decide +kernel
theorem d_FF_count_64 : decode c0_FF_count 64 = .ok (.ireturn, 1) := by decide +kernel
theorem d_FF_count_65 : decode c0_FF_count 65 = .ok (.aload_n 0, 1) := by decide +kernel
theorem d_FF_count_66 : decode c0_FF_count 66 = .ok (.getfield 19, 3) := by decide +kernel
theorem d_FF_count_69 : decode c0_FF_count 69 = .ok (.invokevirtual 74, 3) := by decide +kernel
theorem d_FF_count_72 : decode c0_FF_count 72 = .ok (.ireturn, 1) := by decide +kernel
theorem d_FF_count_73 : decode c0_FF_count 73 = .ok (.bipush (-2), 2) := by decide +kernel
theorem d_FF_count_75 : decode c0_FF_count 75 = .ok (.ireturn, 1) := by decide +kernel
def f_FF_count (K : Nat → ClassId) (N : Nat) (o : Nat) (a1 : Int32) (h0 : fh_H) : Option (Int32 × fh_H) :=
  if a1 = 0 then ((fg_a h0 (some o) 0 0).bind fun x1 => (fg_i h0 x1 1 2).bind fun x2 => some (x2, h0)) else (if a1 = 1 then ((fg_i h0 (some o) 0 4).bind fun x3 => some (x3, h0)) else (if a1 = 2 then ((fg_a h0 (some o) 0 1).bind fun x4 => (fg_a h0 x4 2 0).bind fun x5 => (fg_i h0 x5 3 1).bind fun x6 => some (x6, h0)) else (if a1 = 3 then ((fg_i h0 (some o) 0 3).bind fun x7 => some (x7, h0)) else (if a1 = 4 then ((fg_a h0 (some o) 0 1).bind fun x8 => (fg_o h0 x8 2).bind fun o9 => (f_Fs_countPlaces K N o9 h0).bind fun r10 => some (r10.1, r10.2)) else (some ((-2), h0))))))
set_option maxHeartbeats 4000000 in
set_option maxRecDepth 100000 in
theorem c_FF_count {l : Launch} {D : va_G} {K : Nat → ClassId} {t : Nat → Nat} {N : Nat} {o : Nat} {a1 : Int32} {h0 : fh_H} {res : Int32 × fh_H} (hf : f_FF_count K N o a1 h0 = some res) : fC l D K t y_FF_count c0_FF_count 2 (some .int) rm_FF_count [.ref o, .int a1] h0 (some (.int res.1)) res.2 := by
  refine fh_body (by decide) (Nat.le_of_ble_eq_true rfl) ?_
  intro p e s m below meth c A ls S hr hk hnm hE hAe hI hl
  obtain ⟨hx, hb, hml, hown, hts⟩ := id S
  have hl : lv_has ls 2 [(0, va_rf (some o)), (1, .int a1)] := hl
  unfold f_FF_count at hf
  refine lv_iload_n hx hb d_FF_count_0 rfl (lv_at hl 1 rfl) ?_
  by_cases c_1_0 : a1 = 0
  · replace hf := fh_t c_1_0 hf
    refine lv_tableIn (tgt := 36) hx hb d_FF_count_1 (by rw [c_1_0]; decide) (by rw [c_1_0]; decide) (off := 35) (by rw [c_1_0]; decide) (by decide) ?_
    refine fh_aload_n S d_FF_count_36 rfl (lv_at hl 0 rfl) ?_
    obtain ⟨x1, e_x1, hf⟩ := fh_b hf
    refine fh_geta S hE.1 hI e_x1 (hc := rfl) (hin := in_0) (by decide) (hts _ k_45) d_FF_count_37 ?_
    obtain ⟨x2, e_x2, hf⟩ := fh_b hf
    refine fh_geti S hE.1 hI e_x2 (hc := rfl) (hin := in_1) (by decide) (hts _ k_47) d_FF_count_40 ?_
    obtain rfl := Option.some.inj hf
    exact fh_iret S hr hk rfl hAe hI d_FF_count_43
  replace hf := fh_f c_1_0 hf
  by_cases c_1_1 : a1 = 1
  · replace hf := fh_t c_1_1 hf
    refine lv_tableIn (tgt := 44) hx hb d_FF_count_1 (by rw [c_1_1]; decide) (by rw [c_1_1]; decide) (off := 43) (by rw [c_1_1]; decide) (by decide) ?_
    refine fh_aload_n S d_FF_count_44 rfl (lv_at hl 0 rfl) ?_
    obtain ⟨x3, e_x3, hf⟩ := fh_b hf
    refine fh_geti S hE.1 hI e_x3 (hc := rfl) (hin := in_0) (by decide) (hts _ k_43) d_FF_count_45 ?_
    obtain rfl := Option.some.inj hf
    exact fh_iret S hr hk rfl hAe hI d_FF_count_48
  replace hf := fh_f c_1_1 hf
  by_cases c_1_2 : a1 = 2
  · replace hf := fh_t c_1_2 hf
    refine lv_tableIn (tgt := 49) hx hb d_FF_count_1 (by rw [c_1_2]; decide) (by rw [c_1_2]; decide) (off := 48) (by rw [c_1_2]; decide) (by decide) ?_
    refine fh_aload_n S d_FF_count_49 rfl (lv_at hl 0 rfl) ?_
    obtain ⟨x4, e_x4, hf⟩ := fh_b hf
    refine fh_geta S hE.1 hI e_x4 (hc := rfl) (hin := in_0) (by decide) (hts _ k_40) d_FF_count_50 ?_
    obtain ⟨x5, e_x5, hf⟩ := fh_b hf
    refine fh_geta S hE.1 hI e_x5 (hc := rfl) (hin := in_2) (by decide) (hts _ k_41) d_FF_count_53 ?_
    obtain ⟨x6, e_x6, hf⟩ := fh_b hf
    refine fh_geti S hE.1 hI e_x6 (hc := rfl) (hin := in_3) (by decide) (hts _ k_56) d_FF_count_56 ?_
    obtain rfl := Option.some.inj hf
    exact fh_iret S hr hk rfl hAe hI d_FF_count_59
  replace hf := fh_f c_1_2 hf
  by_cases c_1_3 : a1 = 3
  · replace hf := fh_t c_1_3 hf
    refine lv_tableIn (tgt := 60) hx hb d_FF_count_1 (by rw [c_1_3]; decide) (by rw [c_1_3]; decide) (off := 59) (by rw [c_1_3]; decide) (by decide) ?_
    refine fh_aload_n S d_FF_count_60 rfl (lv_at hl 0 rfl) ?_
    obtain ⟨x7, e_x7, hf⟩ := fh_b hf
    refine fh_geti S hE.1 hI e_x7 (hc := rfl) (hin := in_0) (by decide) (hts _ k_42) d_FF_count_61 ?_
    obtain rfl := Option.some.inj hf
    exact fh_iret S hr hk rfl hAe hI d_FF_count_64
  replace hf := fh_f c_1_3 hf
  by_cases c_1_4 : a1 = 4
  · replace hf := fh_t c_1_4 hf
    refine lv_tableIn (tgt := 65) hx hb d_FF_count_1 (by rw [c_1_4]; decide) (by rw [c_1_4]; decide) (off := 64) (by rw [c_1_4]; decide) (by decide) ?_
    refine fh_aload_n S d_FF_count_65 rfl (lv_at hl 0 rfl) ?_
    obtain ⟨x8, e_x8, hf⟩ := fh_b hf
    refine fh_geta S hE.1 hI e_x8 (hc := rfl) (hin := in_0) (by decide) (hts _ k_40) d_FF_count_66 ?_
    obtain ⟨o9, e_o9, hf⟩ := fh_b hf
    obtain ⟨r10, e_r10, hf⟩ := fh_b hf
    refine fh_callV (As := []) (rest := []) S fT_good hE hI e_o9 rfl (c_Fs_countPlaces e_r10) fy_Fs_countPlaces fst_Fs_countPlaces k_72 ⟨rfl, rfl⟩ ⟨Nat.le_of_ble_eq_true rfl, Nat.le_of_ble_eq_true rfl⟩ ⟨Nat.zero_le _, Nat.zero_le _⟩ rfl hl.1 rfl (Nat.le_of_ble_eq_true rfl) d_FF_count_69 (fun H locs hI => ?_)
    obtain rfl := Option.some.inj hf
    exact fh_iret S hr hk rfl hAe hI d_FF_count_72
  replace hf := fh_f c_1_4 hf
  have c_1 : a1.toInt < 0 ∨ 4 < a1.toInt := by
    have q0 : a1.toInt ≠ 0 := fun q => c_1_0 (Int32.toInt_inj.mp (q.trans (by decide)))
    have q1 : a1.toInt ≠ 1 := fun q => c_1_1 (Int32.toInt_inj.mp (q.trans (by decide)))
    have q2 : a1.toInt ≠ 2 := fun q => c_1_2 (Int32.toInt_inj.mp (q.trans (by decide)))
    have q3 : a1.toInt ≠ 3 := fun q => c_1_3 (Int32.toInt_inj.mp (q.trans (by decide)))
    have q4 : a1.toInt ≠ 4 := fun q => c_1_4 (Int32.toInt_inj.mp (q.trans (by decide)))
    omega
  refine lv_tableOut (tgt := 73) hx hb d_FF_count_1 c_1 (by decide) ?_
  refine lv_bipush (v := (-2)) hx hb d_FF_count_73 (by decide) ?_
  obtain rfl := Option.some.inj hf
  exact fh_iret S hr hk rfl hAe hI d_FF_count_75
