theorem d_FF_told_0 : decode c0_FF_told 0 = .ok (.aload_n 0, 1) := by decide +kernel
theorem d_FF_told_1 : decode c0_FF_told 1 = .ok (.iload_n 1, 1) := by decide +kernel
theorem d_FF_told_2 : decode c0_FF_told 2 = .ok (.invokevirtual 62, 3) := by decide +kernel
theorem d_FF_told_5 : decode c0_FF_told 5 = .ok (.ifCond .eq 12, 3) := by decide +kernel
theorem d_FF_told_8 : decode c0_FF_told 8 = .ok (.iload_n 2, 1) := by decide +kernel
theorem d_FF_told_9 : decode c0_FF_told 9 = .ok (.ifCond .lt 8, 3) := by decide +kernel
theorem d_FF_told_12 : decode c0_FF_told 12 = .ok (.iload_n 2, 1) := by decide +kernel
theorem d_FF_told_13 : decode c0_FF_told 13 = .ok (.iconst 4, 1) := by decide +kernel
theorem d_FF_told_14 : decode c0_FF_told 14 = .ok (.if_icmp .le 6, 3) := by decide +kernel
theorem d_FF_told_17 : decode c0_FF_told 17 = .ok (.bipush (-2), 2) := by decide +kernel
theorem d_FF_told_19 : decode c0_FF_told 19 = .ok (.ireturn, 1) := by decide +kernel
theorem d_FF_told_20 : decode c0_FF_told 20 = .ok (.aload_n 0, 1) := by decide +kernel
theorem d_FF_told_21 : decode c0_FF_told 21 = .ok (.getfield 10, 3) := by decide +kernel
theorem d_FF_told_24 : decode c0_FF_told 24 = .ok (.getfield 66, 3) := by decide +kernel
theorem d_FF_told_27 : decode c0_FF_told 27 = .ok (.iload_n 1, 1) := by decide +kernel
theorem d_FF_told_28 : decode c0_FF_told 28 = .ok (.iaload, 1) := by decide +kernel
theorem d_FF_told_29 : decode c0_FF_told 29 = .ok (.istore_n 3, 1) := by decide +kernel
theorem d_FF_told_30 : decode c0_FF_told 30 = .ok (.iload_n 2, 1) := by decide +kernel
theorem d_FF_told_31 : decode c0_FF_told 31 = .ok (.ifCond .ne 5, 3) := by decide +kernel
theorem d_FF_told_34 : decode c0_FF_told 34 = .ok (.iload_n 3, 1) := by decide +kernel
theorem d_FF_told_35 : decode c0_FF_told 35 = .ok (.ireturn, 1) := by decide +kernel
theorem d_FF_told_36 : decode c0_FF_told 36 = .ok (.iload_n 2, 1) := by decide +kernel
theorem d_FF_told_37 : decode c0_FF_told 37 = .ok (.getstatic 78, 3) := by decide +kernel
theorem d_FF_told_40 : decode c0_FF_told 40 = .ok (.iload_n 3, 1) := by decide +kernel
theorem d_FF_told_41 : decode c0_FF_told 41 = .ok (.iaload, 1) := by decide +kernel
theorem d_FF_told_42 : decode c0_FF_told 42 = .ok (.if_icmp .gt 17, 3) := by decide +kernel
theorem d_FF_told_45 : decode c0_FF_told 45 = .ok (.aload_n 0, 1) := by decide +kernel
theorem d_FF_told_46 : decode c0_FF_told 46 = .ok (.getfield 10, 3) := by decide +kernel
theorem d_FF_told_49 : decode c0_FF_told 49 = .ok (.iload_n 1, 1) := by decide +kernel
theorem d_FF_told_50 : decode c0_FF_told 50 = .ok (.iload_n 2, 1) := by decide +kernel
theorem d_FF_told_51 : decode c0_FF_told 51 = .ok (.iconst 1, 1) := by decide +kernel
theorem d_FF_told_52 : decode c0_FF_told 52 = .ok (.isub, 1) := by decide +kernel
theorem d_FF_told_53 : decode c0_FF_told 53 = .ok (.invokevirtual 81, 3) := by decide +kernel
theorem d_FF_told_56 : decode c0_FF_told 56 = .ok (.goto 4, 3) := by decide +kernel
theorem d_FF_told_59 : decode c0_FF_told 59 = .ok (.iconst (-1), 1) := by decide +kernel
theorem d_FF_told_60 : decode c0_FF_told 60 = .ok (.ireturn, 1) := by decide +kernel
def f_FF_told (K : Nat → ClassId) (N : Nat) (o : Nat) (a1 : Int32) (a2 : Int32) (h0 : fh_H) : Option (Int32 × fh_H) :=
  (fg_o h0 (some o) 0).bind fun o1 => (f_FF_isThere K N o1 a1 h0).bind fun r2 => if r2.1 = 0 then (some ((-2), r2.2)) else (if a2 < 0 then (some ((-2), r2.2)) else (if a2 ≤ 4 then ((fg_a r2.2 (some o) 0 0).bind fun x3 => (fg_a r2.2 x3 1 0).bind fun x4 => (fa_i (K 0) r2.2 x4 a1).bind fun x5 => if a2 = 0 then (some (x5, r2.2)) else ((ft_i 14 tb_1 x5).bind fun x6 => if x6 < a2 then (some ((-1), r2.2)) else ((fg_a r2.2 (some o) 0 0).bind fun x7 => (fg_o r2.2 x7 1).bind fun o8 => (f_Pl_from K N o8 a1 (a2 - 1) r2.2).bind fun r9 => some (r9.1, r9.2)))) else (some ((-2), r2.2))))
set_option maxHeartbeats 4000000 in
set_option maxRecDepth 100000 in
theorem c_FF_told {l : Launch} {D : va_G} {K : Nat → ClassId} {t : Nat → Nat} {N : Nat} {o : Nat} {a1 : Int32} {a2 : Int32} {h0 : fh_H} {res : Int32 × fh_H} (hf : f_FF_told K N o a1 a2 h0 = some res) : fC l D K t y_FF_told c0_FF_told 4 (some .int) rm_FF_told [.ref o, .int a1, .int a2] h0 (some (.int res.1)) res.2 := by
  refine fh_body (by decide) (Nat.le_of_ble_eq_true rfl) ?_
  intro p e s m below meth c A ls S hr hk hnm hE hAe hI hl
  obtain ⟨hx, hb, hml, hown, hts⟩ := id S
  have hl : lv_has ls 4 [(0, va_rf (some o)), (1, .int a1), (2, .int a2)] := hl
  unfold f_FF_told at hf
  refine fh_aload_n S d_FF_told_0 rfl (lv_at hl 0 rfl) ?_
  refine lv_iload_n hx hb d_FF_told_1 rfl (lv_at hl 1 rfl) ?_
  obtain ⟨o1, e_o1, hf⟩ := fh_b hf
  obtain ⟨r2, e_r2, hf⟩ := fh_b hf
  refine fh_callV (As := [.int a1]) (rest := []) S fT_good hE hI e_o1 rfl (c_FF_isThere e_r2) fy_FF_isThere fst_FF_isThere k_54 ⟨rfl, rfl⟩ ⟨Nat.le_of_ble_eq_true rfl, Nat.le_of_ble_eq_true rfl⟩ ⟨Nat.zero_le _, Nat.zero_le _⟩ rfl hl.1 rfl (Nat.le_of_ble_eq_true rfl) d_FF_told_2 (fun H locs hI => ?_)
  refine lv_if_eq (tgt := 17) hx hb d_FF_told_5 (by decide) (fun c_5 => ?_) (fun c_5 => ?_)
  · replace hf := fh_t c_5 hf
    refine lv_bipush (v := (-2)) hx hb d_FF_told_17 (by decide) ?_
    obtain rfl := Option.some.inj hf
    exact fh_iret S hr hk rfl hAe hI d_FF_told_19
  · replace hf := fh_f c_5 hf
    refine lv_iload_n hx hb d_FF_told_8 rfl (lv_at hl 2 rfl) ?_
    refine lv_if_lt (tgt := 17) hx hb d_FF_told_9 (by decide) (fun c_9 => ?_) (fun c_9 => ?_)
    · replace hf := fh_t c_9 hf
      refine lv_bipush (v := (-2)) hx hb d_FF_told_17 (by decide) ?_
      obtain rfl := Option.some.inj hf
      exact fh_iret S hr hk rfl hAe hI d_FF_told_19
    · replace hf := fh_f c_9 hf
      refine lv_iload_n hx hb d_FF_told_12 rfl (lv_at hl 2 rfl) ?_
      refine lv_iconst (v := 4) hx hb d_FF_told_13 (by decide) ?_
      refine lv_icmp_le (tgt := 20) hx hb d_FF_told_14 (by decide) (fun c_14 => ?_) (fun c_14 => ?_)
      · replace hf := fh_t c_14 hf
        refine fh_aload_n S d_FF_told_20 rfl (lv_at hl 0 rfl) ?_
        obtain ⟨x3, e_x3, hf⟩ := fh_b hf
        refine fh_geta S hE.1 hI e_x3 (hc := rfl) (hin := in_0) (by decide) (hts _ k_45) d_FF_told_21 ?_
        obtain ⟨x4, e_x4, hf⟩ := fh_b hf
        refine fh_geta S hE.1 hI e_x4 (hc := rfl) (hin := in_1) (by decide) (hts _ k_55) d_FF_told_24 ?_
        refine lv_iload_n hx hb d_FF_told_27 rfl (lv_at hl 1 rfl) ?_
        obtain ⟨x5, e_x5, hf⟩ := fh_b hf
        refine fh_iald S hE.1 hI 0 rfl e_x5 d_FF_told_28 ?_
        refine lv_istore_n (lv' := [(3, .int x5), (0, va_rf (some o)), (1, .int a1), (2, .int a2)]) hx hb d_FF_told_29 rfl hl (by decide) rfl (fun ls hl => ?_)
        refine lv_iload_n hx hb d_FF_told_30 rfl (lv_at hl 3 rfl) ?_
        refine lv_if_ne (tgt := 36) hx hb d_FF_told_31 (by decide) (fun c_31 => ?_) (fun c_31 => ?_)
        · replace hf := fh_f c_31 hf
          refine lv_iload_n hx hb d_FF_told_36 rfl (lv_at hl 3 rfl) ?_
          refine fh_gett S hE.2.1 hI (k := 1) rfl (hts _ k_50) d_FF_told_37 ?_
          refine lv_iload_n hx hb d_FF_told_40 rfl (lv_at hl 0 rfl) ?_
          obtain ⟨x6, e_x6, hf⟩ := fh_b hf
          refine fh_tald S hE.2.1 hI (k := 1) rfl e_x6 d_FF_told_41 ?_
          refine lv_icmp_gt (tgt := 59) hx hb d_FF_told_42 (by decide) (fun c_42 => ?_) (fun c_42 => ?_)
          · replace hf := fh_t c_42 hf
            refine lv_iconst (v := (-1)) hx hb d_FF_told_59 (by decide) ?_
            obtain rfl := Option.some.inj hf
            exact fh_iret S hr hk rfl hAe hI d_FF_told_60
          · replace hf := fh_f c_42 hf
            refine fh_aload_n S d_FF_told_45 rfl (lv_at hl 1 rfl) ?_
            obtain ⟨x7, e_x7, hf⟩ := fh_b hf
            refine fh_geta S hE.1 hI e_x7 (hc := rfl) (hin := in_0) (by decide) (hts _ k_45) d_FF_told_46 ?_
            refine lv_iload_n hx hb d_FF_told_49 rfl (lv_at hl 2 rfl) ?_
            refine lv_iload_n hx hb d_FF_told_50 rfl (lv_at hl 3 rfl) ?_
            refine lv_iconst (v := 1) hx hb d_FF_told_51 (by decide) ?_
            refine lv_isub hx hb d_FF_told_52 ?_
            obtain ⟨o8, e_o8, hf⟩ := fh_b hf
            obtain ⟨r9, e_r9, hf⟩ := fh_b hf
            refine fh_callV (As := [.int a1, .int (a2 - 1)]) (rest := []) S fT_good hE hI e_o8 rfl (c_Pl_from e_r9) fy_Pl_from fst_Pl_from k_73 ⟨rfl, rfl⟩ ⟨Nat.le_of_ble_eq_true rfl, Nat.le_of_ble_eq_true rfl⟩ ⟨Nat.zero_le _, Nat.zero_le _⟩ rfl hl.1 rfl (Nat.le_of_ble_eq_true rfl) d_FF_told_53 (fun H locs hI => ?_)
            refine lv_goto (tgt := 60) hx hb d_FF_told_56 (by decide) ?_
            obtain rfl := Option.some.inj hf
            exact fh_iret S hr hk rfl hAe hI d_FF_told_60
        · replace hf := fh_t c_31 hf
          refine lv_iload_n hx hb d_FF_told_34 rfl (lv_at hl 0 rfl) ?_
          obtain rfl := Option.some.inj hf
          exact fh_iret S hr hk rfl hAe hI d_FF_told_35
      · replace hf := fh_f c_14 hf
        refine lv_bipush (v := (-2)) hx hb d_FF_told_17 (by decide) ?_
        obtain rfl := Option.some.inj hf
        exact fh_iret S hr hk rfl hAe hI d_FF_told_19
theorem d_FF_falls_0 : decode c0_FF_falls 0 = .ok (.iload_n 1, 1) := by decide +kernel
theorem d_FF_falls_1 : decode c0_FF_falls 1 = .ok (.ifCond .lt 11, 3) := by decide +kernel
theorem d_FF_falls_4 : decode c0_FF_falls 4 = .ok (.iload_n 1, 1) := by decide +kernel
theorem d_FF_falls_5 : decode c0_FF_falls 5 = .ok (.aload_n 0, 1) := by decide +kernel
theorem d_FF_falls_6 : decode c0_FF_falls 6 = .ok (.getfield 34, 3) := by decide +kernel
theorem d_FF_falls_9 : decode c0_FF_falls 9 = .ok (.if_icmp .lt 6, 3) := by decide +kernel
theorem d_FF_falls_12 : decode c0_FF_falls 12 = .ok (.bipush (-2), 2) := by decide +kernel
theorem d_FF_falls_14 : decode c0_FF_falls 14 = .ok (.ireturn, 1) := by decide +kernel
theorem d_FF_falls_15 : decode c0_FF_falls 15 = .ok (.aload_n 0, 1) := by decide +kernel
theorem d_FF_falls_16 : decode c0_FF_falls 16 = .ok (.getfield 19, 3) := by decide +kernel
theorem d_FF_falls_19 : decode c0_FF_falls 19 = .ok (.getfield 51, 3) := by decide +kernel
theorem d_FF_falls_22 : decode c0_FF_falls 22 = .ok (.getfield 85, 3) := by decide +kernel
theorem d_FF_falls_25 : decode c0_FF_falls 25 = .ok (.iload_n 1, 1) := by decide +kernel
theorem d_FF_falls_26 : decode c0_FF_falls 26 = .ok (.aaload, 1) := by decide +kernel
theorem d_FF_falls_27 : decode c0_FF_falls 27 = .ok (.getfield 89, 3) := by decide +kernel
theorem d_FF_falls_30 : decode c0_FF_falls 30 = .ok (.ireturn, 1) := by decide +kernel
def f_FF_falls (K : Nat → ClassId) (N : Nat) (o : Nat) (a1 : Int32) (h0 : fh_H) : Option (Int32 × fh_H) :=
  if a1 < 0 then (some ((-2), h0)) else ((fg_i h0 (some o) 0 4).bind fun x1 => if a1 < x1 then ((fg_a h0 (some o) 0 1).bind fun x2 => (fg_a h0 x2 2 0).bind fun x3 => (fg_a h0 x3 3 0).bind fun x4 => (fa_a (K 3) h0 x4 a1).bind fun x5 => (fg_i h0 x5 4 3).bind fun x6 => some (x6, h0)) else (some ((-2), h0)))
set_option maxHeartbeats 4000000 in
set_option maxRecDepth 100000 in
theorem c_FF_falls {l : Launch} {D : va_G} {K : Nat → ClassId} {t : Nat → Nat} {N : Nat} {o : Nat} {a1 : Int32} {h0 : fh_H} {res : Int32 × fh_H} (hf : f_FF_falls K N o a1 h0 = some res) : fC l D K t y_FF_falls c0_FF_falls 2 (some .int) rm_FF_falls [.ref o, .int a1] h0 (some (.int res.1)) res.2 := by
  refine fh_body (by decide) (Nat.le_of_ble_eq_true rfl) ?_
  intro p e s m below meth c A ls S hr hk hnm hE hAe hI hl
  obtain ⟨hx, hb, hml, hown, hts⟩ := id S
  have hl : lv_has ls 2 [(0, va_rf (some o)), (1, .int a1)] := hl
  unfold f_FF_falls at hf
  refine lv_iload_n hx hb d_FF_falls_0 rfl (lv_at hl 1 rfl) ?_
  refine lv_if_lt (tgt := 12) hx hb d_FF_falls_1 (by decide) (fun c_1 => ?_) (fun c_1 => ?_)
  · replace hf := fh_t c_1 hf
    refine lv_bipush (v := (-2)) hx hb d_FF_falls_12 (by decide) ?_
    obtain rfl := Option.some.inj hf
    exact fh_iret S hr hk rfl hAe hI d_FF_falls_14
  · replace hf := fh_f c_1 hf
    refine lv_iload_n hx hb d_FF_falls_4 rfl (lv_at hl 1 rfl) ?_
    refine fh_aload_n S d_FF_falls_5 rfl (lv_at hl 0 rfl) ?_
    obtain ⟨x1, e_x1, hf⟩ := fh_b hf
    refine fh_geti S hE.1 hI e_x1 (hc := rfl) (hin := in_0) (by decide) (hts _ k_43) d_FF_falls_6 ?_
    refine lv_icmp_lt (tgt := 15) hx hb d_FF_falls_9 (by decide) (fun c_9 => ?_) (fun c_9 => ?_)
    · replace hf := fh_t c_9 hf
      refine fh_aload_n S d_FF_falls_15 rfl (lv_at hl 0 rfl) ?_
      obtain ⟨x2, e_x2, hf⟩ := fh_b hf
      refine fh_geta S hE.1 hI e_x2 (hc := rfl) (hin := in_0) (by decide) (hts _ k_40) d_FF_falls_16 ?_
      obtain ⟨x3, e_x3, hf⟩ := fh_b hf
      refine fh_geta S hE.1 hI e_x3 (hc := rfl) (hin := in_2) (by decide) (hts _ k_41) d_FF_falls_19 ?_
      obtain ⟨x4, e_x4, hf⟩ := fh_b hf
      refine fh_geta S hE.1 hI e_x4 (hc := rfl) (hin := in_3) (by decide) (hts _ k_74) d_FF_falls_22 ?_
      refine lv_iload_n hx hb d_FF_falls_25 rfl (lv_at hl 1 rfl) ?_
      obtain ⟨x5, e_x5, hf⟩ := fh_b hf
      refine fh_aald S hE.1 hI 3 rfl e_x5 d_FF_falls_26 ?_
      obtain ⟨x6, e_x6, hf⟩ := fh_b hf
      refine fh_geti S hE.1 hI e_x6 (hc := rfl) (hin := in_4) (by decide) (hts _ k_75) d_FF_falls_27 ?_
      obtain rfl := Option.some.inj hf
      exact fh_iret S hr hk rfl hAe hI d_FF_falls_30
    · replace hf := fh_f c_9 hf
      refine lv_bipush (v := (-2)) hx hb d_FF_falls_12 (by decide) ?_
      obtain rfl := Option.some.inj hf
      exact fh_iret S hr hk rfl hAe hI d_FF_falls_14
theorem d_FF_place_0 : decode c0_FF_place 0 = .ok (.iload_n 1, 1) := by decide +kernel
theorem d_FF_place_1 : decode c0_FF_place 1 = .ok (.ifCond .lt 28, 3) := by decide +kernel
theorem d_FF_place_4 : decode c0_FF_place 4 = .ok (.iload_n 1, 1) := by decide +kernel
theorem d_FF_place_5 : decode c0_FF_place 5 = .ok (.aload_n 0, 1) := by decide +kernel
theorem d_FF_place_6 : decode c0_FF_place 6 = .ok (.getfield 34, 3) := by decide +kernel
theorem d_FF_place_9 : decode c0_FF_place 9 = .ok (.if_icmp .ge 20, 3) := by decide +kernel
theorem d_FF_place_12 : decode c0_FF_place 12 = .ok (.aload_n 0, 1) := by decide +kernel
theorem d_FF_place_13 : decode c0_FF_place 13 = .ok (.iload_n 2, 1) := by decide +kernel
theorem d_FF_place_14 : decode c0_FF_place 14 = .ok (.invokevirtual 62, 3) := by decide +kernel
theorem d_FF_place_17 : decode c0_FF_place 17 = .ok (.ifCond .eq 12, 3) := by decide +kernel
theorem d_FF_place_20 : decode c0_FF_place 20 = .ok (.iload_n 3, 1) := by decide +kernel
theorem d_FF_place_21 : decode c0_FF_place 21 = .ok (.ifCond .lt 8, 3) := by decide +kernel
theorem d_FF_place_24 : decode c0_FF_place 24 = .ok (.iload_n 3, 1) := by decide +kernel
theorem d_FF_place_25 : decode c0_FF_place 25 = .ok (.iconst 1, 1) := by decide +kernel
theorem d_FF_place_26 : decode c0_FF_place 26 = .ok (.if_icmp .le 6, 3) := by decide +kernel
theorem d_FF_place_29 : decode c0_FF_place 29 = .ok (.bipush (-2), 2) := by decide +kernel
theorem d_FF_place_31 : decode c0_FF_place 31 = .ok (.ireturn, 1) := by decide +kernel
theorem d_FF_place_32 : decode c0_FF_place 32 = .ok (.aload_n 0, 1) := by decide +kernel
theorem d_FF_place_33 : decode c0_FF_place 33 = .ok (.getfield 19, 3) := by decide +kernel
theorem d_FF_place_36 : decode c0_FF_place 36 = .ok (.getfield 51, 3) := by decide +kernel
theorem d_FF_place_39 : decode c0_FF_place 39 = .ok (.getfield 85, 3) := by decide +kernel
theorem d_FF_place_42 : decode c0_FF_place 42 = .ok (.iload_n 1, 1) := by decide +kernel
theorem d_FF_place_43 : decode c0_FF_place 43 = .ok (.aaload, 1) := by decide +kernel
theorem d_FF_place_44 : decode c0_FF_place 44 = .ok (.astore 4, 2) := by decide +kernel
theorem d_FF_place_46 : decode c0_FF_place 46 = .ok (.iload_n 2, 1) := by decide +kernel
theorem d_FF_place_47 : decode c0_FF_place 47 = .ok (.aload 4, 2) := by decide +kernel
theorem d_FF_place_49 : decode c0_FF_place 49 = .ok (.getfield 94, 3) := by decide +kernel
theorem d_FF_place_52 : decode c0_FF_place 52 = .ok (.if_icmp .lt 5, 3) := by decide +kernel
theorem d_FF_place_55 : decode c0_FF_place 55 = .ok (.iconst (-1), 1) := by decide +kernel
theorem d_FF_place_56 : decode c0_FF_place 56 = .ok (.ireturn, 1) := by decide +kernel
theorem d_FF_place_57 : decode c0_FF_place 57 = .ok (.iload_n 3, 1) := by decide +kernel
theorem d_FF_place_58 : decode c0_FF_place 58 = .ok (.ifCond .ne 13, 3) := by decide +kernel
theorem d_FF_place_61 : decode c0_FF_place 61 = .ok (.aload 4, 2) := by decide +kernel
theorem d_FF_place_63 : decode c0_FF_place 63 = .ok (.getfield 97, 3) := by decide +kernel
theorem d_FF_place_66 : decode c0_FF_place 66 = .ok (.iload_n 2, 1) := by decide +kernel
theorem d_FF_place_67 : decode c0_FF_place 67 = .ok (.iaload, 1) := by decide +kernel
theorem d_FF_place_68 : decode c0_FF_place 68 = .ok (.goto 10, 3) := by decide +kernel
theorem d_FF_place_71 : decode c0_FF_place 71 = .ok (.aload 4, 2) := by decide +kernel
theorem d_FF_place_73 : decode c0_FF_place 73 = .ok (.getfield 100, 3) := by decide +kernel
theorem d_FF_place_76 : decode c0_FF_place 76 = .ok (.iload_n 2, 1) := by decide +kernel
theorem d_FF_place_77 : decode c0_FF_place 77 = .ok (.iaload, 1) := by decide +kernel
theorem d_FF_place_78 : decode c0_FF_place 78 = .ok (.ireturn, 1) := by decide +kernel
def f_FF_place (K : Nat → ClassId) (N : Nat) (o : Nat) (a1 : Int32) (a2 : Int32) (a3 : Int32) (h0 : fh_H) : Option (Int32 × fh_H) :=
  if a1 < 0 then (some ((-2), h0)) else ((fg_i h0 (some o) 0 4).bind fun x1 => if x1 ≤ a1 then (some ((-2), h0)) else ((fg_o h0 (some o) 0).bind fun o2 => (f_FF_isThere K N o2 a2 h0).bind fun r3 => if r3.1 = 0 then (some ((-2), r3.2)) else (if a3 < 0 then (some ((-2), r3.2)) else (if a3 ≤ 1 then ((fg_a r3.2 (some o) 0 1).bind fun x4 => (fg_a r3.2 x4 2 0).bind fun x5 => (fg_a r3.2 x5 3 0).bind fun x6 => (fa_a (K 3) r3.2 x6 a1).bind fun x7 => (fg_i r3.2 x7 4 2).bind fun x8 => if a2 < x8 then (if a3 = 0 then ((fg_a r3.2 x7 4 0).bind fun x11 => (fa_i (K 0) r3.2 x11 a2).bind fun x12 => some (x12, r3.2)) else ((fg_a r3.2 x7 4 1).bind fun x9 => (fa_i (K 0) r3.2 x9 a2).bind fun x10 => some (x10, r3.2))) else (some ((-1), r3.2))) else (some ((-2), r3.2))))))
set_option maxHeartbeats 4000000 in
set_option maxRecDepth 100000 in
theorem c_FF_place {l : Launch} {D : va_G} {K : Nat → ClassId} {t : Nat → Nat} {N : Nat} {o : Nat} {a1 : Int32} {a2 : Int32} {a3 : Int32} {h0 : fh_H} {res : Int32 × fh_H} (hf : f_FF_place K N o a1 a2 a3 h0 = some res) : fC l D K t y_FF_place c0_FF_place 5 (some .int) rm_FF_place [.ref o, .int a1, .int a2, .int a3] h0 (some (.int res.1)) res.2 := by
  refine fh_body (by decide) (Nat.le_of_ble_eq_true rfl) ?_
  intro p e s m below meth c A ls S hr hk hnm hE hAe hI hl
  obtain ⟨hx, hb, hml, hown, hts⟩ := id S
  have hl : lv_has ls 5 [(0, va_rf (some o)), (1, .int a1), (2, .int a2), (3, .int a3)] := hl
  unfold f_FF_place at hf
  refine lv_iload_n hx hb d_FF_place_0 rfl (lv_at hl 1 rfl) ?_
  refine lv_if_lt (tgt := 29) hx hb d_FF_place_1 (by decide) (fun c_1 => ?_) (fun c_1 => ?_)
  · replace hf := fh_t c_1 hf
    refine lv_bipush (v := (-2)) hx hb d_FF_place_29 (by decide) ?_
    obtain rfl := Option.some.inj hf
    exact fh_iret S hr hk rfl hAe hI d_FF_place_31
  · replace hf := fh_f c_1 hf
    refine lv_iload_n hx hb d_FF_place_4 rfl (lv_at hl 1 rfl) ?_
    refine fh_aload_n S d_FF_place_5 rfl (lv_at hl 0 rfl) ?_
    obtain ⟨x1, e_x1, hf⟩ := fh_b hf
    refine fh_geti S hE.1 hI e_x1 (hc := rfl) (hin := in_0) (by decide) (hts _ k_43) d_FF_place_6 ?_
    refine lv_icmp_ge (tgt := 29) hx hb d_FF_place_9 (by decide) (fun c_9 => ?_) (fun c_9 => ?_)
    · replace hf := fh_t c_9 hf
      refine lv_bipush (v := (-2)) hx hb d_FF_place_29 (by decide) ?_
      obtain rfl := Option.some.inj hf
      exact fh_iret S hr hk rfl hAe hI d_FF_place_31
    · replace hf := fh_f c_9 hf
      refine fh_aload_n S d_FF_place_12 rfl (lv_at hl 0 rfl) ?_
      refine lv_iload_n hx hb d_FF_place_13 rfl (lv_at hl 2 rfl) ?_
      obtain ⟨o2, e_o2, hf⟩ := fh_b hf
      obtain ⟨r3, e_r3, hf⟩ := fh_b hf
      refine fh_callV (As := [.int a2]) (rest := []) S fT_good hE hI e_o2 rfl (c_FF_isThere e_r3) fy_FF_isThere fst_FF_isThere k_54 ⟨rfl, rfl⟩ ⟨Nat.le_of_ble_eq_true rfl, Nat.le_of_ble_eq_true rfl⟩ ⟨Nat.zero_le _, Nat.zero_le _⟩ rfl hl.1 rfl (Nat.le_of_ble_eq_true rfl) d_FF_place_14 (fun H locs hI => ?_)
      refine lv_if_eq (tgt := 29) hx hb d_FF_place_17 (by decide) (fun c_17 => ?_) (fun c_17 => ?_)
      · replace hf := fh_t c_17 hf
        refine lv_bipush (v := (-2)) hx hb d_FF_place_29 (by decide) ?_
        obtain rfl := Option.some.inj hf
        exact fh_iret S hr hk rfl hAe hI d_FF_place_31
      · replace hf := fh_f c_17 hf
        refine lv_iload_n hx hb d_FF_place_20 rfl (lv_at hl 3 rfl) ?_
        refine lv_if_lt (tgt := 29) hx hb d_FF_place_21 (by decide) (fun c_21 => ?_) (fun c_21 => ?_)
        · replace hf := fh_t c_21 hf
          refine lv_bipush (v := (-2)) hx hb d_FF_place_29 (by decide) ?_
          obtain rfl := Option.some.inj hf
          exact fh_iret S hr hk rfl hAe hI d_FF_place_31
        · replace hf := fh_f c_21 hf
          refine lv_iload_n hx hb d_FF_place_24 rfl (lv_at hl 3 rfl) ?_
          refine lv_iconst (v := 1) hx hb d_FF_place_25 (by decide) ?_
          refine lv_icmp_le (tgt := 32) hx hb d_FF_place_26 (by decide) (fun c_26 => ?_) (fun c_26 => ?_)
          · replace hf := fh_t c_26 hf
            refine fh_aload_n S d_FF_place_32 rfl (lv_at hl 0 rfl) ?_
            obtain ⟨x4, e_x4, hf⟩ := fh_b hf
            refine fh_geta S hE.1 hI e_x4 (hc := rfl) (hin := in_0) (by decide) (hts _ k_40) d_FF_place_33 ?_
            obtain ⟨x5, e_x5, hf⟩ := fh_b hf
            refine fh_geta S hE.1 hI e_x5 (hc := rfl) (hin := in_2) (by decide) (hts _ k_41) d_FF_place_36 ?_
            obtain ⟨x6, e_x6, hf⟩ := fh_b hf
            refine fh_geta S hE.1 hI e_x6 (hc := rfl) (hin := in_3) (by decide) (hts _ k_74) d_FF_place_39 ?_
            refine lv_iload_n hx hb d_FF_place_42 rfl (lv_at hl 1 rfl) ?_
            obtain ⟨x7, e_x7, hf⟩ := fh_b hf
            refine fh_aald S hE.1 hI 3 rfl e_x7 d_FF_place_43 ?_
            refine fh_astore (lv' := [(4, va_rf x7), (0, va_rf (some o)), (1, .int a1), (2, .int a2), (3, .int a3)]) S d_FF_place_44 hl (by decide) rfl (fun ls hl => ?_)
            refine lv_iload_n hx hb d_FF_place_46 rfl (lv_at hl 3 rfl) ?_
            refine fh_aload S d_FF_place_47 (lv_at hl 0 rfl) ?_
            obtain ⟨x8, e_x8, hf⟩ := fh_b hf
            refine fh_geti S hE.1 hI e_x8 (hc := rfl) (hin := in_4) (by decide) (hts _ k_76) d_FF_place_49 ?_
            refine lv_icmp_lt (tgt := 57) hx hb d_FF_place_52 (by decide) (fun c_52 => ?_) (fun c_52 => ?_)
            · replace hf := fh_t c_52 hf
              refine lv_iload_n hx hb d_FF_place_57 rfl (lv_at hl 4 rfl) ?_
              refine lv_if_ne (tgt := 71) hx hb d_FF_place_58 (by decide) (fun c_58 => ?_) (fun c_58 => ?_)
              · replace hf := fh_f c_58 hf
                refine fh_aload S d_FF_place_71 (lv_at hl 0 rfl) ?_
                obtain ⟨x9, e_x9, hf⟩ := fh_b hf
                refine fh_geta S hE.1 hI e_x9 (hc := rfl) (hin := in_4) (by decide) (hts _ k_78) d_FF_place_73 ?_
                refine lv_iload_n hx hb d_FF_place_76 rfl (lv_at hl 3 rfl) ?_
                obtain ⟨x10, e_x10, hf⟩ := fh_b hf
                refine fh_iald S hE.1 hI 0 rfl e_x10 d_FF_place_77 ?_
                obtain rfl := Option.some.inj hf
                exact fh_iret S hr hk rfl hAe hI d_FF_place_78
              · replace hf := fh_t c_58 hf
                refine fh_aload S d_FF_place_61 (lv_at hl 0 rfl) ?_
                obtain ⟨x11, e_x11, hf⟩ := fh_b hf
                refine fh_geta S hE.1 hI e_x11 (hc := rfl) (hin := in_4) (by decide) (hts _ k_77) d_FF_place_63 ?_
                refine lv_iload_n hx hb d_FF_place_66 rfl (lv_at hl 3 rfl) ?_
                obtain ⟨x12, e_x12, hf⟩ := fh_b hf
                refine fh_iald S hE.1 hI 0 rfl e_x12 d_FF_place_67 ?_
                refine lv_goto (tgt := 78) hx hb d_FF_place_68 (by decide) ?_
                obtain rfl := Option.some.inj hf
                exact fh_iret S hr hk rfl hAe hI d_FF_place_78
            · replace hf := fh_f c_52 hf
              refine lv_iconst (v := (-1)) hx hb d_FF_place_55 (by decide) ?_
              obtain rfl := Option.some.inj hf
              exact fh_iret S hr hk rfl hAe hI d_FF_place_56
          · replace hf := fh_f c_26 hf
            refine lv_bipush (v := (-2)) hx hb d_FF_place_29 (by decide) ?_
            obtain rfl := Option.some.inj hf
            exact fh_iret S hr hk rfl hAe hI d_FF_place_31
theorem d_FF_isFactKind_0 : decode c0_FF_isFactKind 0 = .ok (.iload_n 0, 1) := by decide +kernel
theorem d_FF_isFactKind_1 : decode c0_FF_isFactKind 1 = .ok (.ifCond .lt 13, 3) := by decide +kernel
theorem d_FF_isFactKind_4 : decode c0_FF_isFactKind 4 = .ok (.iload_n 0, 1) := by decide +kernel
theorem d_FF_isFactKind_5 : decode c0_FF_isFactKind 5 = .ok (.bipush 9, 2) := by decide +kernel
theorem d_FF_isFactKind_7 : decode c0_FF_isFactKind 7 = .ok (.if_icmp .ge 7, 3) := by decide +kernel
theorem d_FF_isFactKind_10 : decode c0_FF_isFactKind 10 = .ok (.iconst 1, 1) := by decide +kernel
theorem d_FF_isFactKind_11 : decode c0_FF_isFactKind 11 = .ok (.goto 4, 3) := by decide +kernel
theorem d_FF_isFactKind_14 : decode c0_FF_isFactKind 14 = .ok (.iconst 0, 1) := by decide +kernel
theorem d_FF_isFactKind_15 : decode c0_FF_isFactKind 15 = .ok (.ireturn, 1) := by decide +kernel
def f_FF_isFactKind (K : Nat → ClassId) (N : Nat) (a0 : Int32) (h0 : fh_H) : Option (Int32 × fh_H) :=
  if a0 < 0 then (some (0, h0)) else (if 9 ≤ a0 then (some (0, h0)) else (some (1, h0)))
set_option maxHeartbeats 4000000 in
set_option maxRecDepth 100000 in
theorem c_FF_isFactKind {l : Launch} {D : va_G} {K : Nat → ClassId} {t : Nat → Nat} {N : Nat} {a0 : Int32} {h0 : fh_H} {res : Int32 × fh_H} (hf : f_FF_isFactKind K N a0 h0 = some res) : fC l D K t y_FF_isFactKind c0_FF_isFactKind 1 (some .boolean) rm_FF_isFactKind [.int a0] h0 (some (.int res.1)) res.2 := by
  refine fh_body (by decide) (Nat.le_of_ble_eq_true rfl) ?_
  intro p e s m below meth c A ls S hr hk hnm hE hAe hI hl
  obtain ⟨hx, hb, hml, hown, hts⟩ := id S
  have hl : lv_has ls 1 [(0, .int a0)] := hl
  unfold f_FF_isFactKind at hf
  refine lv_iload_n hx hb d_FF_isFactKind_0 rfl (lv_at hl 0 rfl) ?_
  refine lv_if_lt (tgt := 14) hx hb d_FF_isFactKind_1 (by decide) (fun c_1 => ?_) (fun c_1 => ?_)
  · replace hf := fh_t c_1 hf
    refine lv_iconst (v := 0) hx hb d_FF_isFactKind_14 (by decide) ?_
    obtain rfl := Option.some.inj hf
    exact fh_iret S hr hk (fh_nb (Or.inl rfl)) hAe hI d_FF_isFactKind_15
  · replace hf := fh_f c_1 hf
    refine lv_iload_n hx hb d_FF_isFactKind_4 rfl (lv_at hl 0 rfl) ?_
    refine lv_bipush (v := 9) hx hb d_FF_isFactKind_5 (by decide) ?_
    refine lv_icmp_ge (tgt := 14) hx hb d_FF_isFactKind_7 (by decide) (fun c_7 => ?_) (fun c_7 => ?_)
    · replace hf := fh_t c_7 hf
      refine lv_iconst (v := 0) hx hb d_FF_isFactKind_14 (by decide) ?_
      obtain rfl := Option.some.inj hf
      exact fh_iret S hr hk (fh_nb (Or.inl rfl)) hAe hI d_FF_isFactKind_15
    · replace hf := fh_f c_7 hf
      refine lv_iconst (v := 1) hx hb d_FF_isFactKind_10 (by decide) ?_
      refine lv_goto (tgt := 15) hx hb d_FF_isFactKind_11 (by decide) ?_
      obtain rfl := Option.some.inj hf
      exact fh_iret S hr hk (fh_nb (Or.inr rfl)) hAe hI d_FF_isFactKind_15
theorem d_FF_areThere_0 : decode c0_FF_areThere 0 = .ok (.aload_n 0, 1) := by decide +kernel
theorem d_FF_areThere_1 : decode c0_FF_areThere 1 = .ok (.iload_n 2, 1) := by decide +kernel
theorem d_FF_areThere_2 : decode c0_FF_areThere 2 = .ok (.invokevirtual 62, 3) := by decide +kernel
theorem d_FF_areThere_5 : decode c0_FF_areThere 5 = .ok (.ifCond .eq 72, 3) := by decide +kernel
theorem d_FF_areThere_8 : decode c0_FF_areThere 8 = .ok (.aload_n 0, 1) := by decide +kernel
theorem d_FF_areThere_9 : decode c0_FF_areThere 9 = .ok (.iload_n 3, 1) := by decide +kernel
theorem d_FF_areThere_10 : decode c0_FF_areThere 10 = .ok (.invokevirtual 62, 3) := by decide +kernel
theorem d_FF_areThere_13 : decode c0_FF_areThere 13 = .ok (.ifCond .eq 64, 3) := by decide +kernel
theorem d_FF_areThere_16 : decode c0_FF_areThere 16 = .ok (.iload_n 1, 1) := by decide +kernel
theorem d_FF_areThere_17 : decode c0_FF_areThere 17 = .ok (.iconst 3, 1) := by decide +kernel
theorem d_FF_areThere_18 : decode c0_FF_areThere 18 = .ok (.if_icmp .lt 12, 3) := by decide +kernel
theorem d_FF_areThere_21 : decode c0_FF_areThere 21 = .ok (.aload_n 0, 1) := by decide +kernel
theorem d_FF_areThere_22 : decode c0_FF_areThere 22 = .ok (.iload 4, 2) := by decide +kernel
theorem d_FF_areThere_24 : decode c0_FF_areThere 24 = .ok (.invokevirtual 62, 3) := by decide +kernel
theorem d_FF_areThere_27 : decode c0_FF_areThere 27 = .ok (.ifCond .eq 50, 3) := by decide +kernel
theorem d_FF_areThere_30 : decode c0_FF_areThere 30 = .ok (.iload_n 1, 1) := by decide +kernel
theorem d_FF_areThere_31 : decode c0_FF_areThere 31 = .ok (.iconst 4, 1) := by decide +kernel
theorem d_FF_areThere_32 : decode c0_FF_areThere 32 = .ok (.if_icmp .lt 12, 3) := by decide +kernel
theorem d_FF_areThere_35 : decode c0_FF_areThere 35 = .ok (.aload_n 0, 1) := by decide +kernel
theorem d_FF_areThere_36 : decode c0_FF_areThere 36 = .ok (.iload 5, 2) := by decide +kernel
theorem d_FF_areThere_38 : decode c0_FF_areThere 38 = .ok (.invokevirtual 62, 3) := by decide +kernel
theorem d_FF_areThere_41 : decode c0_FF_areThere 41 = .ok (.ifCond .eq 36, 3) := by decide +kernel
theorem d_FF_areThere_44 : decode c0_FF_areThere 44 = .ok (.iload_n 1, 1) := by decide +kernel
theorem d_FF_areThere_45 : decode c0_FF_areThere 45 = .ok (.iconst 5, 1) := by decide +kernel
theorem d_FF_areThere_46 : decode c0_FF_areThere 46 = .ok (.if_icmp .lt 12, 3) := by decide +kernel
theorem d_FF_areThere_49 : decode c0_FF_areThere 49 = .ok (.aload_n 0, 1) := by decide +kernel
theorem d_FF_areThere_50 : decode c0_FF_areThere 50 = .ok (.iload 6, 2) := by decide +kernel
theorem d_FF_areThere_52 : decode c0_FF_areThere 52 = .ok (.invokevirtual 62, 3) := by decide +kernel
theorem d_FF_areThere_55 : decode c0_FF_areThere 55 = .ok (.ifCond .eq 22, 3) := by decide +kernel
theorem d_FF_areThere_58 : decode c0_FF_areThere 58 = .ok (.iload_n 1, 1) := by decide +kernel
theorem d_FF_areThere_59 : decode c0_FF_areThere 59 = .ok (.bipush 6, 2) := by decide +kernel
theorem d_FF_areThere_61 : decode c0_FF_areThere 61 = .ok (.if_icmp .lt 12, 3) := by decide +kernel
theorem d_FF_areThere_64 : decode c0_FF_areThere 64 = .ok (.aload_n 0, 1) := by decide +kernel
theorem d_FF_areThere_65 : decode c0_FF_areThere 65 = .ok (.iload 7, 2) := by decide +kernel
theorem d_FF_areThere_67 : decode c0_FF_areThere 67 = .ok (.invokevirtual 62, 3) := by decide +kernel
theorem d_FF_areThere_70 : decode c0_FF_areThere 70 = .ok (.ifCond .eq 7, 3) := by decide +kernel
theorem d_FF_areThere_73 : decode c0_FF_areThere 73 = .ok (.iconst 1, 1) := by decide +kernel
theorem d_FF_areThere_74 : decode c0_FF_areThere 74 = .ok (.goto 4, 3) := by decide +kernel
theorem d_FF_areThere_77 : decode c0_FF_areThere 77 = .ok (.iconst 0, 1) := by decide +kernel
theorem d_FF_areThere_78 : decode c0_FF_areThere 78 = .ok (.ireturn, 1) := by decide +kernel
def b_FF_areThere_58 (K : Nat → ClassId) (N : Nat) (o : Nat) (v1 : Int32) (v7 : Int32) (h : fh_H) : Option (Int32 × fh_H) :=
  if v1 < 6 then (some (1, h)) else ((fg_o h (some o) 0).bind fun o1 => (f_FF_isThere K N o1 v7 h).bind fun r2 => if r2.1 = 0 then (some (0, r2.2)) else (some (1, r2.2)))
def b_FF_areThere_44 (K : Nat → ClassId) (N : Nat) (o : Nat) (v1 : Int32) (v6 : Int32) (v7 : Int32) (h : fh_H) : Option (Int32 × fh_H) :=
  if v1 < 5 then (b_FF_areThere_58 K N o v1 v7 h) else ((fg_o h (some o) 0).bind fun o1 => (f_FF_isThere K N o1 v6 h).bind fun r2 => if r2.1 = 0 then (some (0, r2.2)) else (b_FF_areThere_58 K N o v1 v7 r2.2))
def b_FF_areThere_30 (K : Nat → ClassId) (N : Nat) (o : Nat) (v1 : Int32) (v5 : Int32) (v6 : Int32) (v7 : Int32) (h : fh_H) : Option (Int32 × fh_H) :=
  if v1 < 4 then (b_FF_areThere_44 K N o v1 v6 v7 h) else ((fg_o h (some o) 0).bind fun o1 => (f_FF_isThere K N o1 v5 h).bind fun r2 => if r2.1 = 0 then (some (0, r2.2)) else (b_FF_areThere_44 K N o v1 v6 v7 r2.2))
def f_FF_areThere (K : Nat → ClassId) (N : Nat) (o : Nat) (a1 : Int32) (a2 : Int32) (a3 : Int32) (a4 : Int32) (a5 : Int32) (a6 : Int32) (a7 : Int32) (h0 : fh_H) : Option (Int32 × fh_H) :=
  (fg_o h0 (some o) 0).bind fun o1 => (f_FF_isThere K N o1 a2 h0).bind fun r2 => if r2.1 = 0 then (some (0, r2.2)) else ((fg_o r2.2 (some o) 0).bind fun o3 => (f_FF_isThere K N o3 a3 r2.2).bind fun r4 => if r4.1 = 0 then (some (0, r4.2)) else (if a1 < 3 then (b_FF_areThere_30 K N o a1 a5 a6 a7 r4.2) else ((fg_o r4.2 (some o) 0).bind fun o5 => (f_FF_isThere K N o5 a4 r4.2).bind fun r6 => if r6.1 = 0 then (some (0, r6.2)) else (b_FF_areThere_30 K N o a1 a5 a6 a7 r6.2))))
set_option maxHeartbeats 4000000 in
set_option maxRecDepth 100000 in
theorem c_FF_areThere {l : Launch} {D : va_G} {K : Nat → ClassId} {t : Nat → Nat} {N : Nat} {o : Nat} {a1 : Int32} {a2 : Int32} {a3 : Int32} {a4 : Int32} {a5 : Int32} {a6 : Int32} {a7 : Int32} {h0 : fh_H} {res : Int32 × fh_H} (hf : f_FF_areThere K N o a1 a2 a3 a4 a5 a6 a7 h0 = some res) : fC l D K t y_FF_areThere c0_FF_areThere 8 (some .boolean) rm_FF_areThere [.ref o, .int a1, .int a2, .int a3, .int a4, .int a5, .int a6, .int a7] h0 (some (.int res.1)) res.2 := by
  refine fh_body (by decide) (Nat.le_of_ble_eq_true rfl) ?_
  intro p e s m below meth c A ls S hr hk hnm hE hAe hI hl
  obtain ⟨hx, hb, hml, hown, hts⟩ := id S
  have hl : lv_has ls 8 [(0, va_rf (some o)), (1, .int a1), (2, .int a2), (3, .int a3), (4, .int a4), (5, .int a5), (6, .int a6), (7, .int a7)] := hl
  have B58 : ∀ (v1 : Int32) (v7 : Int32) (h : fh_H) (H : Heap) (locs : List Loc) (ls : Array Slot), lv_has ls 8 [(0, va_rf (some o)), (1, .int v1), (7, .int v7)] → fh_I D classes A s.heap h H locs → b_FF_areThere_58 K N o v1 v7 h = some res → W p l e rm_FF_areThere s m [.ref o, .int a1, .int a2, .int a3, .int a4, .int a5, .int a6, .int a7].toArray below meth c H locs 0 0 (MQ below (fh_Q D classes h0 s.heap.size (some (.int res.1)) res.2) [.ref o, .int a1, .int a2, .int a3, .int a4, .int a5, .int a6, .int a7].toArray s 0 0 A) (F0 m 58 ls []) := by
    intro v1 v7 h H locs ls hl hI hf
    unfold b_FF_areThere_58 at hf
    refine lv_iload_n hx hb d_FF_areThere_58 rfl (lv_at hl 1 rfl) ?_
    refine lv_bipush (v := 6) hx hb d_FF_areThere_59 (by decide) ?_
    refine lv_icmp_lt (tgt := 73) hx hb d_FF_areThere_61 (by decide) (fun c_61 => ?_) (fun c_61 => ?_)
    · replace hf := fh_t c_61 hf
      refine lv_iconst (v := 1) hx hb d_FF_areThere_73 (by decide) ?_
      refine lv_goto (tgt := 78) hx hb d_FF_areThere_74 (by decide) ?_
      obtain rfl := Option.some.inj hf
      exact fh_iret S hr hk (fh_nb (Or.inr rfl)) hAe hI d_FF_areThere_78
    · replace hf := fh_f c_61 hf
      refine fh_aload_n S d_FF_areThere_64 rfl (lv_at hl 0 rfl) ?_
      refine lv_iload hx hb d_FF_areThere_65 (lv_at hl 2 rfl) ?_
      obtain ⟨o1, e_o1, hf⟩ := fh_b hf
      obtain ⟨r2, e_r2, hf⟩ := fh_b hf
      refine fh_callV (As := [.int v7]) (rest := []) S fT_good hE hI e_o1 rfl (c_FF_isThere e_r2) fy_FF_isThere fst_FF_isThere k_54 ⟨rfl, rfl⟩ ⟨Nat.le_of_ble_eq_true rfl, Nat.le_of_ble_eq_true rfl⟩ ⟨Nat.zero_le _, Nat.zero_le _⟩ rfl hl.1 rfl (Nat.le_of_ble_eq_true rfl) d_FF_areThere_67 (fun H locs hI => ?_)
      refine lv_if_eq (tgt := 77) hx hb d_FF_areThere_70 (by decide) (fun c_70 => ?_) (fun c_70 => ?_)
      · replace hf := fh_t c_70 hf
        refine lv_iconst (v := 0) hx hb d_FF_areThere_77 (by decide) ?_
        obtain rfl := Option.some.inj hf
        exact fh_iret S hr hk (fh_nb (Or.inl rfl)) hAe hI d_FF_areThere_78
      · replace hf := fh_f c_70 hf
        refine lv_iconst (v := 1) hx hb d_FF_areThere_73 (by decide) ?_
        refine lv_goto (tgt := 78) hx hb d_FF_areThere_74 (by decide) ?_
        obtain rfl := Option.some.inj hf
        exact fh_iret S hr hk (fh_nb (Or.inr rfl)) hAe hI d_FF_areThere_78
  have B44 : ∀ (v1 : Int32) (v6 : Int32) (v7 : Int32) (h : fh_H) (H : Heap) (locs : List Loc) (ls : Array Slot), lv_has ls 8 [(0, va_rf (some o)), (1, .int v1), (6, .int v6), (7, .int v7)] → fh_I D classes A s.heap h H locs → b_FF_areThere_44 K N o v1 v6 v7 h = some res → W p l e rm_FF_areThere s m [.ref o, .int a1, .int a2, .int a3, .int a4, .int a5, .int a6, .int a7].toArray below meth c H locs 0 0 (MQ below (fh_Q D classes h0 s.heap.size (some (.int res.1)) res.2) [.ref o, .int a1, .int a2, .int a3, .int a4, .int a5, .int a6, .int a7].toArray s 0 0 A) (F0 m 44 ls []) := by
    intro v1 v6 v7 h H locs ls hl hI hf
    unfold b_FF_areThere_44 at hf
    refine lv_iload_n hx hb d_FF_areThere_44 rfl (lv_at hl 1 rfl) ?_
    refine lv_iconst (v := 5) hx hb d_FF_areThere_45 (by decide) ?_
    refine lv_icmp_lt (tgt := 58) hx hb d_FF_areThere_46 (by decide) (fun c_46 => ?_) (fun c_46 => ?_)
    · replace hf := fh_t c_46 hf
      exact B58 v1 v7 h _ _ _ (lv_sub hl [0, 1, 3] rfl) hI hf
    · replace hf := fh_f c_46 hf
      refine fh_aload_n S d_FF_areThere_49 rfl (lv_at hl 0 rfl) ?_
      refine lv_iload hx hb d_FF_areThere_50 (lv_at hl 2 rfl) ?_
      obtain ⟨o1, e_o1, hf⟩ := fh_b hf
      obtain ⟨r2, e_r2, hf⟩ := fh_b hf
      refine fh_callV (As := [.int v6]) (rest := []) S fT_good hE hI e_o1 rfl (c_FF_isThere e_r2) fy_FF_isThere fst_FF_isThere k_54 ⟨rfl, rfl⟩ ⟨Nat.le_of_ble_eq_true rfl, Nat.le_of_ble_eq_true rfl⟩ ⟨Nat.zero_le _, Nat.zero_le _⟩ rfl hl.1 rfl (Nat.le_of_ble_eq_true rfl) d_FF_areThere_52 (fun H locs hI => ?_)
      refine lv_if_eq (tgt := 77) hx hb d_FF_areThere_55 (by decide) (fun c_55 => ?_) (fun c_55 => ?_)
      · replace hf := fh_t c_55 hf
        refine lv_iconst (v := 0) hx hb d_FF_areThere_77 (by decide) ?_
        obtain rfl := Option.some.inj hf
        exact fh_iret S hr hk (fh_nb (Or.inl rfl)) hAe hI d_FF_areThere_78
      · replace hf := fh_f c_55 hf
        exact B58 v1 v7 r2.2 _ _ _ (lv_sub hl [0, 1, 3] rfl) hI hf
  have B30 : ∀ (v1 : Int32) (v5 : Int32) (v6 : Int32) (v7 : Int32) (h : fh_H) (H : Heap) (locs : List Loc) (ls : Array Slot), lv_has ls 8 [(0, va_rf (some o)), (1, .int v1), (5, .int v5), (6, .int v6), (7, .int v7)] → fh_I D classes A s.heap h H locs → b_FF_areThere_30 K N o v1 v5 v6 v7 h = some res → W p l e rm_FF_areThere s m [.ref o, .int a1, .int a2, .int a3, .int a4, .int a5, .int a6, .int a7].toArray below meth c H locs 0 0 (MQ below (fh_Q D classes h0 s.heap.size (some (.int res.1)) res.2) [.ref o, .int a1, .int a2, .int a3, .int a4, .int a5, .int a6, .int a7].toArray s 0 0 A) (F0 m 30 ls []) := by
    intro v1 v5 v6 v7 h H locs ls hl hI hf
    unfold b_FF_areThere_30 at hf
    refine lv_iload_n hx hb d_FF_areThere_30 rfl (lv_at hl 1 rfl) ?_
    refine lv_iconst (v := 4) hx hb d_FF_areThere_31 (by decide) ?_
    refine lv_icmp_lt (tgt := 44) hx hb d_FF_areThere_32 (by decide) (fun c_32 => ?_) (fun c_32 => ?_)
    · replace hf := fh_t c_32 hf
      exact B44 v1 v6 v7 h _ _ _ (lv_sub hl [0, 1, 3, 4] rfl) hI hf
    · replace hf := fh_f c_32 hf
      refine fh_aload_n S d_FF_areThere_35 rfl (lv_at hl 0 rfl) ?_
      refine lv_iload hx hb d_FF_areThere_36 (lv_at hl 2 rfl) ?_
      obtain ⟨o1, e_o1, hf⟩ := fh_b hf
      obtain ⟨r2, e_r2, hf⟩ := fh_b hf
      refine fh_callV (As := [.int v5]) (rest := []) S fT_good hE hI e_o1 rfl (c_FF_isThere e_r2) fy_FF_isThere fst_FF_isThere k_54 ⟨rfl, rfl⟩ ⟨Nat.le_of_ble_eq_true rfl, Nat.le_of_ble_eq_true rfl⟩ ⟨Nat.zero_le _, Nat.zero_le _⟩ rfl hl.1 rfl (Nat.le_of_ble_eq_true rfl) d_FF_areThere_38 (fun H locs hI => ?_)
      refine lv_if_eq (tgt := 77) hx hb d_FF_areThere_41 (by decide) (fun c_41 => ?_) (fun c_41 => ?_)
      · replace hf := fh_t c_41 hf
        refine lv_iconst (v := 0) hx hb d_FF_areThere_77 (by decide) ?_
        obtain rfl := Option.some.inj hf
        exact fh_iret S hr hk (fh_nb (Or.inl rfl)) hAe hI d_FF_areThere_78
      · replace hf := fh_f c_41 hf
        exact B44 v1 v6 v7 r2.2 _ _ _ (lv_sub hl [0, 1, 3, 4] rfl) hI hf
  unfold f_FF_areThere at hf
  refine fh_aload_n S d_FF_areThere_0 rfl (lv_at hl 0 rfl) ?_
  refine lv_iload_n hx hb d_FF_areThere_1 rfl (lv_at hl 2 rfl) ?_
  obtain ⟨o1, e_o1, hf⟩ := fh_b hf
  obtain ⟨r2, e_r2, hf⟩ := fh_b hf
  refine fh_callV (As := [.int a2]) (rest := []) S fT_good hE hI e_o1 rfl (c_FF_isThere e_r2) fy_FF_isThere fst_FF_isThere k_54 ⟨rfl, rfl⟩ ⟨Nat.le_of_ble_eq_true rfl, Nat.le_of_ble_eq_true rfl⟩ ⟨Nat.zero_le _, Nat.zero_le _⟩ rfl hl.1 rfl (Nat.le_of_ble_eq_true rfl) d_FF_areThere_2 (fun H locs hI => ?_)
  refine lv_if_eq (tgt := 77) hx hb d_FF_areThere_5 (by decide) (fun c_5 => ?_) (fun c_5 => ?_)
  · replace hf := fh_t c_5 hf
    refine lv_iconst (v := 0) hx hb d_FF_areThere_77 (by decide) ?_
    obtain rfl := Option.some.inj hf
    exact fh_iret S hr hk (fh_nb (Or.inl rfl)) hAe hI d_FF_areThere_78
  · replace hf := fh_f c_5 hf
    refine fh_aload_n S d_FF_areThere_8 rfl (lv_at hl 0 rfl) ?_
    refine lv_iload_n hx hb d_FF_areThere_9 rfl (lv_at hl 3 rfl) ?_
    obtain ⟨o3, e_o3, hf⟩ := fh_b hf
    obtain ⟨r4, e_r4, hf⟩ := fh_b hf
    refine fh_callV (As := [.int a3]) (rest := []) S fT_good hE hI e_o3 rfl (c_FF_isThere e_r4) fy_FF_isThere fst_FF_isThere k_54 ⟨rfl, rfl⟩ ⟨Nat.le_of_ble_eq_true rfl, Nat.le_of_ble_eq_true rfl⟩ ⟨Nat.zero_le _, Nat.zero_le _⟩ rfl hl.1 rfl (Nat.le_of_ble_eq_true rfl) d_FF_areThere_10 (fun H locs hI => ?_)
    refine lv_if_eq (tgt := 77) hx hb d_FF_areThere_13 (by decide) (fun c_13 => ?_) (fun c_13 => ?_)
    · replace hf := fh_t c_13 hf
      refine lv_iconst (v := 0) hx hb d_FF_areThere_77 (by decide) ?_
      obtain rfl := Option.some.inj hf
      exact fh_iret S hr hk (fh_nb (Or.inl rfl)) hAe hI d_FF_areThere_78
    · replace hf := fh_f c_13 hf
      refine lv_iload_n hx hb d_FF_areThere_16 rfl (lv_at hl 1 rfl) ?_
      refine lv_iconst (v := 3) hx hb d_FF_areThere_17 (by decide) ?_
      refine lv_icmp_lt (tgt := 30) hx hb d_FF_areThere_18 (by decide) (fun c_18 => ?_) (fun c_18 => ?_)
      · replace hf := fh_t c_18 hf
        exact B30 a1 a5 a6 a7 r4.2 _ _ _ (lv_sub hl [0, 1, 5, 6, 7] rfl) hI hf
      · replace hf := fh_f c_18 hf
        refine fh_aload_n S d_FF_areThere_21 rfl (lv_at hl 0 rfl) ?_
        refine lv_iload hx hb d_FF_areThere_22 (lv_at hl 4 rfl) ?_
        obtain ⟨o5, e_o5, hf⟩ := fh_b hf
        obtain ⟨r6, e_r6, hf⟩ := fh_b hf
        refine fh_callV (As := [.int a4]) (rest := []) S fT_good hE hI e_o5 rfl (c_FF_isThere e_r6) fy_FF_isThere fst_FF_isThere k_54 ⟨rfl, rfl⟩ ⟨Nat.le_of_ble_eq_true rfl, Nat.le_of_ble_eq_true rfl⟩ ⟨Nat.zero_le _, Nat.zero_le _⟩ rfl hl.1 rfl (Nat.le_of_ble_eq_true rfl) d_FF_areThere_24 (fun H locs hI => ?_)
        refine lv_if_eq (tgt := 77) hx hb d_FF_areThere_27 (by decide) (fun c_27 => ?_) (fun c_27 => ?_)
        · replace hf := fh_t c_27 hf
          refine lv_iconst (v := 0) hx hb d_FF_areThere_77 (by decide) ?_
          obtain rfl := Option.some.inj hf
          exact fh_iret S hr hk (fh_nb (Or.inl rfl)) hAe hI d_FF_areThere_78
        · replace hf := fh_f c_27 hf
          exact B30 a1 a5 a6 a7 r6.2 _ _ _ (lv_sub hl [0, 1, 5, 6, 7] rfl) hI hf
theorem d_FF_areTwoPairs_0 : decode c0_FF_areTwoPairs 0 = .ok (.iload_n 0, 1) := by decide +kernel
theorem d_FF_areTwoPairs_1 : decode c0_FF_areTwoPairs 1 = .ok (.iload_n 1, 1) := by decide +kernel
theorem d_FF_areTwoPairs_2 : decode c0_FF_areTwoPairs 2 = .ok (.if_icmp .ge 27, 3) := by decide +kernel
theorem d_FF_areTwoPairs_5 : decode c0_FF_areTwoPairs 5 = .ok (.iload_n 2, 1) := by decide +kernel
theorem d_FF_areTwoPairs_6 : decode c0_FF_areTwoPairs 6 = .ok (.iload_n 3, 1) := by decide +kernel
theorem d_FF_areTwoPairs_7 : decode c0_FF_areTwoPairs 7 = .ok (.if_icmp .ge 22, 3) := by decide +kernel
theorem d_FF_areTwoPairs_10 : decode c0_FF_areTwoPairs 10 = .ok (.iload_n 0, 1) := by decide +kernel
theorem d_FF_areTwoPairs_11 : decode c0_FF_areTwoPairs 11 = .ok (.iload_n 2, 1) := by decide +kernel
theorem d_FF_areTwoPairs_12 : decode c0_FF_areTwoPairs 12 = .ok (.if_icmp .lt 13, 3) := by decide +kernel
theorem d_FF_areTwoPairs_15 : decode c0_FF_areTwoPairs 15 = .ok (.iload_n 0, 1) := by decide +kernel
theorem d_FF_areTwoPairs_16 : decode c0_FF_areTwoPairs 16 = .ok (.iload_n 2, 1) := by decide +kernel
theorem d_FF_areTwoPairs_17 : decode c0_FF_areTwoPairs 17 = .ok (.if_icmp .ne 12, 3) := by decide +kernel
theorem d_FF_areTwoPairs_20 : decode c0_FF_areTwoPairs 20 = .ok (.iload_n 1, 1) := by decide +kernel
theorem d_FF_areTwoPairs_21 : decode c0_FF_areTwoPairs 21 = .ok (.iload_n 3, 1) := by decide +kernel
theorem d_FF_areTwoPairs_22 : decode c0_FF_areTwoPairs 22 = .ok (.if_icmp .ge 7, 3) := by decide +kernel
theorem d_FF_areTwoPairs_25 : decode c0_FF_areTwoPairs 25 = .ok (.iconst 1, 1) := by decide +kernel
theorem d_FF_areTwoPairs_26 : decode c0_FF_areTwoPairs 26 = .ok (.goto 4, 3) := by decide +kernel
theorem d_FF_areTwoPairs_29 : decode c0_FF_areTwoPairs 29 = .ok (.iconst 0, 1) := by decide +kernel
theorem d_FF_areTwoPairs_30 : decode c0_FF_areTwoPairs 30 = .ok (.ireturn, 1) := by decide +kernel
def f_FF_areTwoPairs (K : Nat → ClassId) (N : Nat) (a0 : Int32) (a1 : Int32) (a2 : Int32) (a3 : Int32) (h0 : fh_H) : Option (Int32 × fh_H) :=
  if a1 ≤ a0 then (some (0, h0)) else (if a3 ≤ a2 then (some (0, h0)) else (if a0 < a2 then (some (1, h0)) else (if a0 = a2 then (if a3 ≤ a1 then (some (0, h0)) else (some (1, h0))) else (some (0, h0)))))
set_option maxHeartbeats 4000000 in
set_option maxRecDepth 100000 in
theorem c_FF_areTwoPairs {l : Launch} {D : va_G} {K : Nat → ClassId} {t : Nat → Nat} {N : Nat} {a0 : Int32} {a1 : Int32} {a2 : Int32} {a3 : Int32} {h0 : fh_H} {res : Int32 × fh_H} (hf : f_FF_areTwoPairs K N a0 a1 a2 a3 h0 = some res) : fC l D K t y_FF_areTwoPairs c0_FF_areTwoPairs 4 (some .boolean) rm_FF_areTwoPairs [.int a0, .int a1, .int a2, .int a3] h0 (some (.int res.1)) res.2 := by
  refine fh_body (by decide) (Nat.le_of_ble_eq_true rfl) ?_
  intro p e s m below meth c A ls S hr hk hnm hE hAe hI hl
  obtain ⟨hx, hb, hml, hown, hts⟩ := id S
  have hl : lv_has ls 4 [(0, .int a0), (1, .int a1), (2, .int a2), (3, .int a3)] := hl
  unfold f_FF_areTwoPairs at hf
  refine lv_iload_n hx hb d_FF_areTwoPairs_0 rfl (lv_at hl 0 rfl) ?_
  refine lv_iload_n hx hb d_FF_areTwoPairs_1 rfl (lv_at hl 1 rfl) ?_
  refine lv_icmp_ge (tgt := 29) hx hb d_FF_areTwoPairs_2 (by decide) (fun c_2 => ?_) (fun c_2 => ?_)
  · replace hf := fh_t c_2 hf
    refine lv_iconst (v := 0) hx hb d_FF_areTwoPairs_29 (by decide) ?_
    obtain rfl := Option.some.inj hf
    exact fh_iret S hr hk (fh_nb (Or.inl rfl)) hAe hI d_FF_areTwoPairs_30
  · replace hf := fh_f c_2 hf
    refine lv_iload_n hx hb d_FF_areTwoPairs_5 rfl (lv_at hl 2 rfl) ?_
    refine lv_iload_n hx hb d_FF_areTwoPairs_6 rfl (lv_at hl 3 rfl) ?_
    refine lv_icmp_ge (tgt := 29) hx hb d_FF_areTwoPairs_7 (by decide) (fun c_7 => ?_) (fun c_7 => ?_)
    · replace hf := fh_t c_7 hf
      refine lv_iconst (v := 0) hx hb d_FF_areTwoPairs_29 (by decide) ?_
      obtain rfl := Option.some.inj hf
      exact fh_iret S hr hk (fh_nb (Or.inl rfl)) hAe hI d_FF_areTwoPairs_30
    · replace hf := fh_f c_7 hf
      refine lv_iload_n hx hb d_FF_areTwoPairs_10 rfl (lv_at hl 0 rfl) ?_
      refine lv_iload_n hx hb d_FF_areTwoPairs_11 rfl (lv_at hl 2 rfl) ?_
      refine lv_icmp_lt (tgt := 25) hx hb d_FF_areTwoPairs_12 (by decide) (fun c_12 => ?_) (fun c_12 => ?_)
      · replace hf := fh_t c_12 hf
        refine lv_iconst (v := 1) hx hb d_FF_areTwoPairs_25 (by decide) ?_
        refine lv_goto (tgt := 30) hx hb d_FF_areTwoPairs_26 (by decide) ?_
        obtain rfl := Option.some.inj hf
        exact fh_iret S hr hk (fh_nb (Or.inr rfl)) hAe hI d_FF_areTwoPairs_30
      · replace hf := fh_f c_12 hf
        refine lv_iload_n hx hb d_FF_areTwoPairs_15 rfl (lv_at hl 0 rfl) ?_
        refine lv_iload_n hx hb d_FF_areTwoPairs_16 rfl (lv_at hl 2 rfl) ?_
        refine lv_icmp_ne (tgt := 29) hx hb d_FF_areTwoPairs_17 (by decide) (fun c_17 => ?_) (fun c_17 => ?_)
        · replace hf := fh_f c_17 hf
          refine lv_iconst (v := 0) hx hb d_FF_areTwoPairs_29 (by decide) ?_
          obtain rfl := Option.some.inj hf
          exact fh_iret S hr hk (fh_nb (Or.inl rfl)) hAe hI d_FF_areTwoPairs_30
        · replace hf := fh_t c_17 hf
          refine lv_iload_n hx hb d_FF_areTwoPairs_20 rfl (lv_at hl 1 rfl) ?_
          refine lv_iload_n hx hb d_FF_areTwoPairs_21 rfl (lv_at hl 3 rfl) ?_
          refine lv_icmp_ge (tgt := 29) hx hb d_FF_areTwoPairs_22 (by decide) (fun c_22 => ?_) (fun c_22 => ?_)
          · replace hf := fh_t c_22 hf
            refine lv_iconst (v := 0) hx hb d_FF_areTwoPairs_29 (by decide) ?_
            obtain rfl := Option.some.inj hf
            exact fh_iret S hr hk (fh_nb (Or.inl rfl)) hAe hI d_FF_areTwoPairs_30
          · replace hf := fh_f c_22 hf
            refine lv_iconst (v := 1) hx hb d_FF_areTwoPairs_25 (by decide) ?_
            refine lv_goto (tgt := 30) hx hb d_FF_areTwoPairs_26 (by decide) ?_
            obtain rfl := Option.some.inj hf
            exact fh_iret S hr hk (fh_nb (Or.inr rfl)) hAe hI d_FF_areTwoPairs_30
theorem d_FF_areApartPairs_0 : decode c0_FF_areApartPairs 0 = .ok (.iload_n 0, 1) := by decide +kernel
theorem d_FF_areApartPairs_1 : decode c0_FF_areApartPairs 1 = .ok (.iload_n 2, 1) := by decide +kernel
theorem d_FF_areApartPairs_2 : decode c0_FF_areApartPairs 2 = .ok (.if_icmp .eq 22, 3) := by decide +kernel
theorem d_FF_areApartPairs_5 : decode c0_FF_areApartPairs 5 = .ok (.iload_n 0, 1) := by decide +kernel
theorem d_FF_areApartPairs_6 : decode c0_FF_areApartPairs 6 = .ok (.iload_n 3, 1) := by decide +kernel
theorem d_FF_areApartPairs_7 : decode c0_FF_areApartPairs 7 = .ok (.if_icmp .eq 17, 3) := by decide +kernel
theorem d_FF_areApartPairs_10 : decode c0_FF_areApartPairs 10 = .ok (.iload_n 1, 1) := by decide +kernel
theorem d_FF_areApartPairs_11 : decode c0_FF_areApartPairs 11 = .ok (.iload_n 2, 1) := by decide +kernel
theorem d_FF_areApartPairs_12 : decode c0_FF_areApartPairs 12 = .ok (.if_icmp .eq 12, 3) := by decide +kernel
theorem d_FF_areApartPairs_15 : decode c0_FF_areApartPairs 15 = .ok (.iload_n 1, 1) := by decide +kernel
theorem d_FF_areApartPairs_16 : decode c0_FF_areApartPairs 16 = .ok (.iload_n 3, 1) := by decide +kernel
theorem d_FF_areApartPairs_17 : decode c0_FF_areApartPairs 17 = .ok (.if_icmp .eq 7, 3) := by decide +kernel
theorem d_FF_areApartPairs_20 : decode c0_FF_areApartPairs 20 = .ok (.iconst 1, 1) := by decide +kernel
theorem d_FF_areApartPairs_21 : decode c0_FF_areApartPairs 21 = .ok (.goto 4, 3) := by decide +kernel
theorem d_FF_areApartPairs_24 : decode c0_FF_areApartPairs 24 = .ok (.iconst 0, 1) := by decide +kernel
theorem d_FF_areApartPairs_25 : decode c0_FF_areApartPairs 25 = .ok (.ireturn, 1) := by decide +kernel
def f_FF_areApartPairs (K : Nat → ClassId) (N : Nat) (a0 : Int32) (a1 : Int32) (a2 : Int32) (a3 : Int32) (h0 : fh_H) : Option (Int32 × fh_H) :=
  if a0 = a2 then (some (0, h0)) else (if a0 = a3 then (some (0, h0)) else (if a1 = a2 then (some (0, h0)) else (if a1 = a3 then (some (0, h0)) else (some (1, h0)))))
set_option maxHeartbeats 4000000 in
set_option maxRecDepth 100000 in
theorem c_FF_areApartPairs {l : Launch} {D : va_G} {K : Nat → ClassId} {t : Nat → Nat} {N : Nat} {a0 : Int32} {a1 : Int32} {a2 : Int32} {a3 : Int32} {h0 : fh_H} {res : Int32 × fh_H} (hf : f_FF_areApartPairs K N a0 a1 a2 a3 h0 = some res) : fC l D K t y_FF_areApartPairs c0_FF_areApartPairs 4 (some .boolean) rm_FF_areApartPairs [.int a0, .int a1, .int a2, .int a3] h0 (some (.int res.1)) res.2 := by
  refine fh_body (by decide) (Nat.le_of_ble_eq_true rfl) ?_
  intro p e s m below meth c A ls S hr hk hnm hE hAe hI hl
  obtain ⟨hx, hb, hml, hown, hts⟩ := id S
  have hl : lv_has ls 4 [(0, .int a0), (1, .int a1), (2, .int a2), (3, .int a3)] := hl
  unfold f_FF_areApartPairs at hf
  refine lv_iload_n hx hb d_FF_areApartPairs_0 rfl (lv_at hl 0 rfl) ?_
  refine lv_iload_n hx hb d_FF_areApartPairs_1 rfl (lv_at hl 2 rfl) ?_
  refine lv_icmp_eq (tgt := 24) hx hb d_FF_areApartPairs_2 (by decide) (fun c_2 => ?_) (fun c_2 => ?_)
  · replace hf := fh_t c_2 hf
    refine lv_iconst (v := 0) hx hb d_FF_areApartPairs_24 (by decide) ?_
    obtain rfl := Option.some.inj hf
    exact fh_iret S hr hk (fh_nb (Or.inl rfl)) hAe hI d_FF_areApartPairs_25
  · replace hf := fh_f c_2 hf
    refine lv_iload_n hx hb d_FF_areApartPairs_5 rfl (lv_at hl 0 rfl) ?_
    refine lv_iload_n hx hb d_FF_areApartPairs_6 rfl (lv_at hl 3 rfl) ?_
    refine lv_icmp_eq (tgt := 24) hx hb d_FF_areApartPairs_7 (by decide) (fun c_7 => ?_) (fun c_7 => ?_)
    · replace hf := fh_t c_7 hf
      refine lv_iconst (v := 0) hx hb d_FF_areApartPairs_24 (by decide) ?_
      obtain rfl := Option.some.inj hf
      exact fh_iret S hr hk (fh_nb (Or.inl rfl)) hAe hI d_FF_areApartPairs_25
    · replace hf := fh_f c_7 hf
      refine lv_iload_n hx hb d_FF_areApartPairs_10 rfl (lv_at hl 1 rfl) ?_
      refine lv_iload_n hx hb d_FF_areApartPairs_11 rfl (lv_at hl 2 rfl) ?_
      refine lv_icmp_eq (tgt := 24) hx hb d_FF_areApartPairs_12 (by decide) (fun c_12 => ?_) (fun c_12 => ?_)
      · replace hf := fh_t c_12 hf
        refine lv_iconst (v := 0) hx hb d_FF_areApartPairs_24 (by decide) ?_
        obtain rfl := Option.some.inj hf
        exact fh_iret S hr hk (fh_nb (Or.inl rfl)) hAe hI d_FF_areApartPairs_25
      · replace hf := fh_f c_12 hf
        refine lv_iload_n hx hb d_FF_areApartPairs_15 rfl (lv_at hl 1 rfl) ?_
        refine lv_iload_n hx hb d_FF_areApartPairs_16 rfl (lv_at hl 3 rfl) ?_
        refine lv_icmp_eq (tgt := 24) hx hb d_FF_areApartPairs_17 (by decide) (fun c_17 => ?_) (fun c_17 => ?_)
        · replace hf := fh_t c_17 hf
          refine lv_iconst (v := 0) hx hb d_FF_areApartPairs_24 (by decide) ?_
          obtain rfl := Option.some.inj hf
          exact fh_iret S hr hk (fh_nb (Or.inl rfl)) hAe hI d_FF_areApartPairs_25
        · replace hf := fh_f c_17 hf
          refine lv_iconst (v := 1) hx hb d_FF_areApartPairs_20 (by decide) ?_
          refine lv_goto (tgt := 25) hx hb d_FF_areApartPairs_21 (by decide) ?_
          obtain rfl := Option.some.inj hf
          exact fh_iret S hr hk (fh_nb (Or.inr rfl)) hAe hI d_FF_areApartPairs_25
theorem d_FF_isFact_0 : decode c0_FF_isFact 0 = .ok (.iload_n 0, 1) := by decide +kernel
theorem d_FF_isFact_1 : decode c0_FF_isFact 1 = .ok (.tableswitch 218 0 8 #[51, 62, 78, 106, 106, 115, 137, 158, 106], 51) := by decide +kernel
theorem d_FF_isFact_52 : decode c0_FF_isFact 52 = .ok (.iload_n 1, 1) := by decide +kernel
theorem d_FF_isFact_53 : decode c0_FF_isFact 53 = .ok (.iload_n 2, 1) := by decide +kernel
theorem d_FF_isFact_54 : decode c0_FF_isFact 54 = .ok (.if_icmp .ge 7, 3) := by decide +kernel
theorem d_FF_isFact_57 : decode c0_FF_isFact 57 = .ok (.iconst 1, 1) := by decide +kernel
theorem d_FF_isFact_58 : decode c0_FF_isFact 58 = .ok (.goto 4, 3) := by decide +kernel
theorem d_FF_isFact_61 : decode c0_FF_isFact 61 = .ok (.iconst 0, 1) := by decide +kernel
theorem d_FF_isFact_62 : decode c0_FF_isFact 62 = .ok (.ireturn, 1) := by decide +kernel
theorem d_FF_isFact_63 : decode c0_FF_isFact 63 = .ok (.iload_n 1, 1) := by decide +kernel
theorem d_FF_isFact_64 : decode c0_FF_isFact 64 = .ok (.iload_n 2, 1) := by decide +kernel
theorem d_FF_isFact_65 : decode c0_FF_isFact 65 = .ok (.if_icmp .ge 12, 3) := by decide +kernel
theorem d_FF_isFact_68 : decode c0_FF_isFact 68 = .ok (.iload_n 2, 1) := by decide +kernel
theorem d_FF_isFact_69 : decode c0_FF_isFact 69 = .ok (.iload_n 3, 1) := by decide +kernel
theorem d_FF_isFact_70 : decode c0_FF_isFact 70 = .ok (.if_icmp .ge 7, 3) := by decide +kernel
theorem d_FF_isFact_73 : decode c0_FF_isFact 73 = .ok (.iconst 1, 1) := by decide +kernel
theorem d_FF_isFact_74 : decode c0_FF_isFact 74 = .ok (.goto 4, 3) := by decide +kernel
theorem d_FF_isFact_77 : decode c0_FF_isFact 77 = .ok (.iconst 0, 1) := by decide +kernel
theorem d_FF_isFact_78 : decode c0_FF_isFact 78 = .ok (.ireturn, 1) := by decide +kernel
theorem d_FF_isFact_79 : decode c0_FF_isFact 79 = .ok (.iload_n 1, 1) := by decide +kernel
theorem d_FF_isFact_80 : decode c0_FF_isFact 80 = .ok (.iload_n 2, 1) := by decide +kernel
theorem d_FF_isFact_81 : decode c0_FF_isFact 81 = .ok (.iload_n 3, 1) := by decide +kernel
theorem d_FF_isFact_82 : decode c0_FF_isFact 82 = .ok (.iload 4, 2) := by decide +kernel
theorem d_FF_isFact_84 : decode c0_FF_isFact 84 = .ok (.invokestatic 157, 3) := by decide +kernel
theorem d_FF_isFact_87 : decode c0_FF_isFact 87 = .ok (.ifCond .eq 18, 3) := by decide +kernel
theorem d_FF_isFact_90 : decode c0_FF_isFact 90 = .ok (.iload_n 1, 1) := by decide +kernel
theorem d_FF_isFact_91 : decode c0_FF_isFact 91 = .ok (.iload_n 2, 1) := by decide +kernel
theorem d_FF_isFact_92 : decode c0_FF_isFact 92 = .ok (.iload_n 3, 1) := by decide +kernel
theorem d_FF_isFact_93 : decode c0_FF_isFact 93 = .ok (.iload 4, 2) := by decide +kernel
theorem d_FF_isFact_95 : decode c0_FF_isFact 95 = .ok (.invokestatic 161, 3) := by decide +kernel
theorem d_FF_isFact_98 : decode c0_FF_isFact 98 = .ok (.ifCond .eq 7, 3) := by decide +kernel
theorem d_FF_isFact_101 : decode c0_FF_isFact 101 = .ok (.iconst 1, 1) := by decide +kernel
theorem d_FF_isFact_102 : decode c0_FF_isFact 102 = .ok (.goto 4, 3) := by decide +kernel
theorem d_FF_isFact_105 : decode c0_FF_isFact 105 = .ok (.iconst 0, 1) := by decide +kernel
theorem d_FF_isFact_106 : decode c0_FF_isFact 106 = .ok (.ireturn, 1) := by decide +kernel
theorem d_FF_isFact_107 : decode c0_FF_isFact 107 = .ok (.iload_n 1, 1) := by decide +kernel
theorem d_FF_isFact_108 : decode c0_FF_isFact 108 = .ok (.iload_n 2, 1) := by decide +kernel
theorem d_FF_isFact_109 : decode c0_FF_isFact 109 = .ok (.iload_n 3, 1) := by decide +kernel
theorem d_FF_isFact_110 : decode c0_FF_isFact 110 = .ok (.iload 4, 2) := by decide +kernel
theorem d_FF_isFact_112 : decode c0_FF_isFact 112 = .ok (.invokestatic 157, 3) := by decide +kernel
theorem d_FF_isFact_115 : decode c0_FF_isFact 115 = .ok (.ireturn, 1) := by decide +kernel
theorem d_FF_isFact_116 : decode c0_FF_isFact 116 = .ok (.iload_n 1, 1) := by decide +kernel
theorem d_FF_isFact_117 : decode c0_FF_isFact 117 = .ok (.iload_n 2, 1) := by decide +kernel
theorem d_FF_isFact_118 : decode c0_FF_isFact 118 = .ok (.if_icmp .ge 18, 3) := by decide +kernel
theorem d_FF_isFact_121 : decode c0_FF_isFact 121 = .ok (.iload_n 2, 1) := by decide +kernel
theorem d_FF_isFact_122 : decode c0_FF_isFact 122 = .ok (.iload_n 3, 1) := by decide +kernel
theorem d_FF_isFact_123 : decode c0_FF_isFact 123 = .ok (.if_icmp .ge 13, 3) := by decide +kernel
theorem d_FF_isFact_126 : decode c0_FF_isFact 126 = .ok (.iload_n 3, 1) := by decide +kernel
theorem d_FF_isFact_127 : decode c0_FF_isFact 127 = .ok (.iload 4, 2) := by decide +kernel
theorem d_FF_isFact_129 : decode c0_FF_isFact 129 = .ok (.if_icmp .ge 7, 3) := by decide +kernel
theorem d_FF_isFact_132 : decode c0_FF_isFact 132 = .ok (.iconst 1, 1) := by decide +kernel
theorem d_FF_isFact_133 : decode c0_FF_isFact 133 = .ok (.goto 4, 3) := by decide +kernel
theorem d_FF_isFact_136 : decode c0_FF_isFact 136 = .ok (.iconst 0, 1) := by decide +kernel
theorem d_FF_isFact_137 : decode c0_FF_isFact 137 = .ok (.ireturn, 1) := by decide +kernel
theorem d_FF_isFact_138 : decode c0_FF_isFact 138 = .ok (.iload_n 2, 1) := by decide +kernel
theorem d_FF_isFact_139 : decode c0_FF_isFact 139 = .ok (.iload_n 3, 1) := by decide +kernel
theorem d_FF_isFact_140 : decode c0_FF_isFact 140 = .ok (.if_icmp .ge 17, 3) := by decide +kernel
theorem d_FF_isFact_143 : decode c0_FF_isFact 143 = .ok (.iload_n 1, 1) := by decide +kernel
theorem d_FF_isFact_144 : decode c0_FF_isFact 144 = .ok (.iload_n 2, 1) := by decide +kernel
theorem d_FF_isFact_145 : decode c0_FF_isFact 145 = .ok (.if_icmp .eq 12, 3) := by decide +kernel
theorem d_FF_isFact_148 : decode c0_FF_isFact 148 = .ok (.iload_n 1, 1) := by decide +kernel
theorem d_FF_isFact_149 : decode c0_FF_isFact 149 = .ok (.iload_n 3, 1) := by decide +kernel
theorem d_FF_isFact_150 : decode c0_FF_isFact 150 = .ok (.if_icmp .eq 7, 3) := by decide +kernel
theorem d_FF_isFact_153 : decode c0_FF_isFact 153 = .ok (.iconst 1, 1) := by decide +kernel
theorem d_FF_isFact_154 : decode c0_FF_isFact 154 = .ok (.goto 4, 3) := by decide +kernel
theorem d_FF_isFact_157 : decode c0_FF_isFact 157 = .ok (.iconst 0, 1) := by decide +kernel
theorem d_FF_isFact_158 : decode c0_FF_isFact 158 = .ok (.ireturn, 1) := by decide +kernel
theorem d_FF_isFact_159 : decode c0_FF_isFact 159 = .ok (.iload_n 1, 1) := by decide +kernel
theorem d_FF_isFact_160 : decode c0_FF_isFact 160 = .ok (.iload_n 2, 1) := by decide +kernel
theorem d_FF_isFact_161 : decode c0_FF_isFact 161 = .ok (.if_icmp .ge 56, 3) := by decide +kernel
theorem d_FF_isFact_164 : decode c0_FF_isFact 164 = .ok (.iload_n 2, 1) := by decide +kernel
theorem d_FF_isFact_165 : decode c0_FF_isFact 165 = .ok (.iload_n 3, 1) := by decide +kernel
theorem d_FF_isFact_166 : decode c0_FF_isFact 166 = .ok (.if_icmp .ge 51, 3) := by decide +kernel
theorem d_FF_isFact_169 : decode c0_FF_isFact 169 = .ok (.iload 4, 2) := by decide +kernel
theorem d_FF_isFact_171 : decode c0_FF_isFact 171 = .ok (.iload 5, 2) := by decide +kernel
theorem d_FF_isFact_173 : decode c0_FF_isFact 173 = .ok (.if_icmp .ge 44, 3) := by decide +kernel
theorem d_FF_isFact_176 : decode c0_FF_isFact 176 = .ok (.iload 5, 2) := by decide +kernel
theorem d_FF_isFact_178 : decode c0_FF_isFact 178 = .ok (.iload 6, 2) := by decide +kernel
theorem d_FF_isFact_180 : decode c0_FF_isFact 180 = .ok (.if_icmp .ge 37, 3) := by decide +kernel
theorem d_FF_isFact_183 : decode c0_FF_isFact 183 = .ok (.iload_n 1, 1) := by decide +kernel
theorem d_FF_isFact_184 : decode c0_FF_isFact 184 = .ok (.iload 4, 2) := by decide +kernel
theorem d_FF_isFact_186 : decode c0_FF_isFact 186 = .ok (.if_icmp .lt 27, 3) := by decide +kernel
theorem d_FF_isFact_189 : decode c0_FF_isFact 189 = .ok (.iload_n 1, 1) := by decide +kernel
theorem d_FF_isFact_190 : decode c0_FF_isFact 190 = .ok (.iload 4, 2) := by decide +kernel
theorem d_FF_isFact_192 : decode c0_FF_isFact 192 = .ok (.if_icmp .ne 25, 3) := by decide +kernel
theorem d_FF_isFact_195 : decode c0_FF_isFact 195 = .ok (.iload_n 2, 1) := by decide +kernel
theorem d_FF_isFact_196 : decode c0_FF_isFact 196 = .ok (.iload 5, 2) := by decide +kernel
theorem d_FF_isFact_198 : decode c0_FF_isFact 198 = .ok (.if_icmp .lt 15, 3) := by decide +kernel
theorem d_FF_isFact_201 : decode c0_FF_isFact 201 = .ok (.iload_n 2, 1) := by decide +kernel
theorem d_FF_isFact_202 : decode c0_FF_isFact 202 = .ok (.iload 5, 2) := by decide +kernel
theorem d_FF_isFact_204 : decode c0_FF_isFact 204 = .ok (.if_icmp .ne 13, 3) := by decide +kernel
theorem d_FF_isFact_207 : decode c0_FF_isFact 207 = .ok (.iload_n 3, 1) := by decide +kernel
theorem d_FF_isFact_208 : decode c0_FF_isFact 208 = .ok (.iload 6, 2) := by decide +kernel
theorem d_FF_isFact_210 : decode c0_FF_isFact 210 = .ok (.if_icmp .ge 7, 3) := by decide +kernel
theorem d_FF_isFact_213 : decode c0_FF_isFact 213 = .ok (.iconst 1, 1) := by decide +kernel
theorem d_FF_isFact_214 : decode c0_FF_isFact 214 = .ok (.goto 4, 3) := by decide +kernel
theorem d_FF_isFact_217 : decode c0_FF_isFact 217 = .ok (.iconst 0, 1) := by decide +kernel
theorem d_FF_isFact_218 : decode c0_FF_isFact 218 = .ok (.ireturn, 1) := by decide +kernel
theorem d_FF_isFact_219 : decode c0_FF_isFact 219 = .ok (.iconst 0, 1) := by decide +kernel
theorem d_FF_isFact_220 : decode c0_FF_isFact 220 = .ok (.ireturn, 1) := by decide +kernel
def f_FF_isFact (K : Nat → ClassId) (N : Nat) (a0 : Int32) (a1 : Int32) (a2 : Int32) (a3 : Int32) (a4 : Int32) (a5 : Int32) (a6 : Int32) (h0 : fh_H) : Option (Int32 × fh_H) :=
  if a0 = 0 then (if a2 ≤ a1 then (some (0, h0)) else (some (1, h0))) else (if a0 = 1 then (if a2 ≤ a1 then (some (0, h0)) else (if a3 ≤ a2 then (some (0, h0)) else (some (1, h0)))) else (if a0 = 2 then ((f_FF_areTwoPairs K N a1 a2 a3 a4 h0).bind fun r1 => if r1.1 = 0 then (some (0, r1.2)) else ((f_FF_areApartPairs K N a1 a2 a3 a4 r1.2).bind fun r2 => if r2.1 = 0 then (some (0, r2.2)) else (some (1, r2.2)))) else (if a0 = 3 then ((f_FF_areTwoPairs K N a1 a2 a3 a4 h0).bind fun r3 => fz r3.1 r3.2) else (if a0 = 4 then ((f_FF_areTwoPairs K N a1 a2 a3 a4 h0).bind fun r4 => fz r4.1 r4.2) else (if a0 = 5 then (if a2 ≤ a1 then (some (0, h0)) else (if a3 ≤ a2 then (some (0, h0)) else (if a4 ≤ a3 then (some (0, h0)) else (some (1, h0))))) else (if a0 = 6 then (if a3 ≤ a2 then (some (0, h0)) else (if a1 = a2 then (some (0, h0)) else (if a1 = a3 then (some (0, h0)) else (some (1, h0))))) else (if a0 = 7 then (if a2 ≤ a1 then (some (0, h0)) else (if a3 ≤ a2 then (some (0, h0)) else (if a5 ≤ a4 then (some (0, h0)) else (if a6 ≤ a5 then (some (0, h0)) else (if a1 < a4 then (some (1, h0)) else (if a1 = a4 then (if a2 < a5 then (some (1, h0)) else (if a2 = a5 then (if a6 ≤ a3 then (some (0, h0)) else (some (1, h0))) else (some (0, h0)))) else (some (0, h0)))))))) else (if a0 = 8 then ((f_FF_areTwoPairs K N a1 a2 a3 a4 h0).bind fun r5 => fz r5.1 r5.2) else (some (0, h0))))))))))
set_option maxHeartbeats 4000000 in
set_option maxRecDepth 100000 in
theorem c_FF_isFact {l : Launch} {D : va_G} {K : Nat → ClassId} {t : Nat → Nat} {N : Nat} {a0 : Int32} {a1 : Int32} {a2 : Int32} {a3 : Int32} {a4 : Int32} {a5 : Int32} {a6 : Int32} {h0 : fh_H} {res : Int32 × fh_H} (hf : f_FF_isFact K N a0 a1 a2 a3 a4 a5 a6 h0 = some res) : fC l D K t y_FF_isFact c0_FF_isFact 7 (some .boolean) rm_FF_isFact [.int a0, .int a1, .int a2, .int a3, .int a4, .int a5, .int a6] h0 (some (.int res.1)) res.2 := by
  refine fh_body (by decide) (Nat.le_of_ble_eq_true rfl) ?_
  intro p e s m below meth c A ls S hr hk hnm hE hAe hI hl
  obtain ⟨hx, hb, hml, hown, hts⟩ := id S
  have hl : lv_has ls 7 [(0, .int a0), (1, .int a1), (2, .int a2), (3, .int a3), (4, .int a4), (5, .int a5), (6, .int a6)] := hl
  unfold f_FF_isFact at hf
  refine lv_iload_n hx hb d_FF_isFact_0 rfl (lv_at hl 0 rfl) ?_
  by_cases c_1_0 : a0 = 0
  · replace hf := fh_t c_1_0 hf
    refine lv_tableIn (tgt := 52) hx hb d_FF_isFact_1 (by rw [c_1_0]; decide) (by rw [c_1_0]; decide) (off := 51) (by rw [c_1_0]; decide) (by decide) ?_
    refine lv_iload_n hx hb d_FF_isFact_52 rfl (lv_at hl 1 rfl) ?_
    refine lv_iload_n hx hb d_FF_isFact_53 rfl (lv_at hl 2 rfl) ?_
    refine lv_icmp_ge (tgt := 61) hx hb d_FF_isFact_54 (by decide) (fun c_54 => ?_) (fun c_54 => ?_)
    · replace hf := fh_t c_54 hf
      refine lv_iconst (v := 0) hx hb d_FF_isFact_61 (by decide) ?_
      obtain rfl := Option.some.inj hf
      exact fh_iret S hr hk (fh_nb (Or.inl rfl)) hAe hI d_FF_isFact_62
    · replace hf := fh_f c_54 hf
      refine lv_iconst (v := 1) hx hb d_FF_isFact_57 (by decide) ?_
      refine lv_goto (tgt := 62) hx hb d_FF_isFact_58 (by decide) ?_
      obtain rfl := Option.some.inj hf
      exact fh_iret S hr hk (fh_nb (Or.inr rfl)) hAe hI d_FF_isFact_62
  replace hf := fh_f c_1_0 hf
  by_cases c_1_1 : a0 = 1
  · replace hf := fh_t c_1_1 hf
    refine lv_tableIn (tgt := 63) hx hb d_FF_isFact_1 (by rw [c_1_1]; decide) (by rw [c_1_1]; decide) (off := 62) (by rw [c_1_1]; decide) (by decide) ?_
    refine lv_iload_n hx hb d_FF_isFact_63 rfl (lv_at hl 1 rfl) ?_
    refine lv_iload_n hx hb d_FF_isFact_64 rfl (lv_at hl 2 rfl) ?_
    refine lv_icmp_ge (tgt := 77) hx hb d_FF_isFact_65 (by decide) (fun c_65 => ?_) (fun c_65 => ?_)
    · replace hf := fh_t c_65 hf
      refine lv_iconst (v := 0) hx hb d_FF_isFact_77 (by decide) ?_
      obtain rfl := Option.some.inj hf
      exact fh_iret S hr hk (fh_nb (Or.inl rfl)) hAe hI d_FF_isFact_78
    · replace hf := fh_f c_65 hf
      refine lv_iload_n hx hb d_FF_isFact_68 rfl (lv_at hl 2 rfl) ?_
      refine lv_iload_n hx hb d_FF_isFact_69 rfl (lv_at hl 3 rfl) ?_
      refine lv_icmp_ge (tgt := 77) hx hb d_FF_isFact_70 (by decide) (fun c_70 => ?_) (fun c_70 => ?_)
      · replace hf := fh_t c_70 hf
        refine lv_iconst (v := 0) hx hb d_FF_isFact_77 (by decide) ?_
        obtain rfl := Option.some.inj hf
        exact fh_iret S hr hk (fh_nb (Or.inl rfl)) hAe hI d_FF_isFact_78
      · replace hf := fh_f c_70 hf
        refine lv_iconst (v := 1) hx hb d_FF_isFact_73 (by decide) ?_
        refine lv_goto (tgt := 78) hx hb d_FF_isFact_74 (by decide) ?_
        obtain rfl := Option.some.inj hf
        exact fh_iret S hr hk (fh_nb (Or.inr rfl)) hAe hI d_FF_isFact_78
  replace hf := fh_f c_1_1 hf
  by_cases c_1_2 : a0 = 2
  · replace hf := fh_t c_1_2 hf
    refine lv_tableIn (tgt := 79) hx hb d_FF_isFact_1 (by rw [c_1_2]; decide) (by rw [c_1_2]; decide) (off := 78) (by rw [c_1_2]; decide) (by decide) ?_
    refine lv_iload_n hx hb d_FF_isFact_79 rfl (lv_at hl 1 rfl) ?_
    refine lv_iload_n hx hb d_FF_isFact_80 rfl (lv_at hl 2 rfl) ?_
    refine lv_iload_n hx hb d_FF_isFact_81 rfl (lv_at hl 3 rfl) ?_
    refine lv_iload hx hb d_FF_isFact_82 (lv_at hl 4 rfl) ?_
    obtain ⟨r1, e_r1, hf⟩ := fh_b hf
    refine fh_callS (As := [.int a1, .int a2, .int a3, .int a4]) (rest := []) S fT_good hE hI (c_FF_areTwoPairs e_r1) fy_FF_areTwoPairs fst_FF_areTwoPairs k_79 ⟨rfl, rfl⟩ ⟨Nat.le_of_ble_eq_true rfl, Nat.le_of_ble_eq_true rfl⟩ ⟨Nat.zero_le _, Nat.zero_le _⟩ rfl hl.1 rfl (Nat.le_of_ble_eq_true rfl) d_FF_isFact_84 (fun H locs hI => ?_)
    refine lv_if_eq (tgt := 105) hx hb d_FF_isFact_87 (by decide) (fun c_87 => ?_) (fun c_87 => ?_)
    · replace hf := fh_t c_87 hf
      refine lv_iconst (v := 0) hx hb d_FF_isFact_105 (by decide) ?_
      obtain rfl := Option.some.inj hf
      exact fh_iret S hr hk (fh_nb (Or.inl rfl)) hAe hI d_FF_isFact_106
    · replace hf := fh_f c_87 hf
      refine lv_iload_n hx hb d_FF_isFact_90 rfl (lv_at hl 1 rfl) ?_
      refine lv_iload_n hx hb d_FF_isFact_91 rfl (lv_at hl 2 rfl) ?_
      refine lv_iload_n hx hb d_FF_isFact_92 rfl (lv_at hl 3 rfl) ?_
      refine lv_iload hx hb d_FF_isFact_93 (lv_at hl 4 rfl) ?_
      obtain ⟨r2, e_r2, hf⟩ := fh_b hf
      refine fh_callS (As := [.int a1, .int a2, .int a3, .int a4]) (rest := []) S fT_good hE hI (c_FF_areApartPairs e_r2) fy_FF_areApartPairs fst_FF_areApartPairs k_80 ⟨rfl, rfl⟩ ⟨Nat.le_of_ble_eq_true rfl, Nat.le_of_ble_eq_true rfl⟩ ⟨Nat.zero_le _, Nat.zero_le _⟩ rfl hl.1 rfl (Nat.le_of_ble_eq_true rfl) d_FF_isFact_95 (fun H locs hI => ?_)
      refine lv_if_eq (tgt := 105) hx hb d_FF_isFact_98 (by decide) (fun c_98 => ?_) (fun c_98 => ?_)
      · replace hf := fh_t c_98 hf
        refine lv_iconst (v := 0) hx hb d_FF_isFact_105 (by decide) ?_
        obtain rfl := Option.some.inj hf
        exact fh_iret S hr hk (fh_nb (Or.inl rfl)) hAe hI d_FF_isFact_106
      · replace hf := fh_f c_98 hf
        refine lv_iconst (v := 1) hx hb d_FF_isFact_101 (by decide) ?_
        refine lv_goto (tgt := 106) hx hb d_FF_isFact_102 (by decide) ?_
        obtain rfl := Option.some.inj hf
        exact fh_iret S hr hk (fh_nb (Or.inr rfl)) hAe hI d_FF_isFact_106
  replace hf := fh_f c_1_2 hf
  by_cases c_1_3 : a0 = 3
  · replace hf := fh_t c_1_3 hf
    refine lv_tableIn (tgt := 107) hx hb d_FF_isFact_1 (by rw [c_1_3]; decide) (by rw [c_1_3]; decide) (off := 106) (by rw [c_1_3]; decide) (by decide) ?_
    refine lv_iload_n hx hb d_FF_isFact_107 rfl (lv_at hl 1 rfl) ?_
    refine lv_iload_n hx hb d_FF_isFact_108 rfl (lv_at hl 2 rfl) ?_
    refine lv_iload_n hx hb d_FF_isFact_109 rfl (lv_at hl 3 rfl) ?_
    refine lv_iload hx hb d_FF_isFact_110 (lv_at hl 4 rfl) ?_
    obtain ⟨r3, e_r3, hf⟩ := fh_b hf
    refine fh_callS (As := [.int a1, .int a2, .int a3, .int a4]) (rest := []) S fT_good hE hI (c_FF_areTwoPairs e_r3) fy_FF_areTwoPairs fst_FF_areTwoPairs k_79 ⟨rfl, rfl⟩ ⟨Nat.le_of_ble_eq_true rfl, Nat.le_of_ble_eq_true rfl⟩ ⟨Nat.zero_le _, Nat.zero_le _⟩ rfl hl.1 rfl (Nat.le_of_ble_eq_true rfl) d_FF_isFact_112 (fun H locs hI => ?_)
    obtain ⟨hz, rfl⟩ := fz_s hf
    exact fh_iret S hr hk (fh_nb hz) hAe hI d_FF_isFact_115
  replace hf := fh_f c_1_3 hf
  by_cases c_1_4 : a0 = 4
  · replace hf := fh_t c_1_4 hf
    refine lv_tableIn (tgt := 107) hx hb d_FF_isFact_1 (by rw [c_1_4]; decide) (by rw [c_1_4]; decide) (off := 106) (by rw [c_1_4]; decide) (by decide) ?_
    refine lv_iload_n hx hb d_FF_isFact_107 rfl (lv_at hl 1 rfl) ?_
    refine lv_iload_n hx hb d_FF_isFact_108 rfl (lv_at hl 2 rfl) ?_
    refine lv_iload_n hx hb d_FF_isFact_109 rfl (lv_at hl 3 rfl) ?_
    refine lv_iload hx hb d_FF_isFact_110 (lv_at hl 4 rfl) ?_
    obtain ⟨r4, e_r4, hf⟩ := fh_b hf
    refine fh_callS (As := [.int a1, .int a2, .int a3, .int a4]) (rest := []) S fT_good hE hI (c_FF_areTwoPairs e_r4) fy_FF_areTwoPairs fst_FF_areTwoPairs k_79 ⟨rfl, rfl⟩ ⟨Nat.le_of_ble_eq_true rfl, Nat.le_of_ble_eq_true rfl⟩ ⟨Nat.zero_le _, Nat.zero_le _⟩ rfl hl.1 rfl (Nat.le_of_ble_eq_true rfl) d_FF_isFact_112 (fun H locs hI => ?_)
    obtain ⟨hz, rfl⟩ := fz_s hf
    exact fh_iret S hr hk (fh_nb hz) hAe hI d_FF_isFact_115
  replace hf := fh_f c_1_4 hf
  by_cases c_1_5 : a0 = 5
  · replace hf := fh_t c_1_5 hf
    refine lv_tableIn (tgt := 116) hx hb d_FF_isFact_1 (by rw [c_1_5]; decide) (by rw [c_1_5]; decide) (off := 115) (by rw [c_1_5]; decide) (by decide) ?_
    refine lv_iload_n hx hb d_FF_isFact_116 rfl (lv_at hl 1 rfl) ?_
    refine lv_iload_n hx hb d_FF_isFact_117 rfl (lv_at hl 2 rfl) ?_
    refine lv_icmp_ge (tgt := 136) hx hb d_FF_isFact_118 (by decide) (fun c_118 => ?_) (fun c_118 => ?_)
    · replace hf := fh_t c_118 hf
      refine lv_iconst (v := 0) hx hb d_FF_isFact_136 (by decide) ?_
      obtain rfl := Option.some.inj hf
      exact fh_iret S hr hk (fh_nb (Or.inl rfl)) hAe hI d_FF_isFact_137
    · replace hf := fh_f c_118 hf
      refine lv_iload_n hx hb d_FF_isFact_121 rfl (lv_at hl 2 rfl) ?_
      refine lv_iload_n hx hb d_FF_isFact_122 rfl (lv_at hl 3 rfl) ?_
      refine lv_icmp_ge (tgt := 136) hx hb d_FF_isFact_123 (by decide) (fun c_123 => ?_) (fun c_123 => ?_)
      · replace hf := fh_t c_123 hf
        refine lv_iconst (v := 0) hx hb d_FF_isFact_136 (by decide) ?_
        obtain rfl := Option.some.inj hf
        exact fh_iret S hr hk (fh_nb (Or.inl rfl)) hAe hI d_FF_isFact_137
      · replace hf := fh_f c_123 hf
        refine lv_iload_n hx hb d_FF_isFact_126 rfl (lv_at hl 3 rfl) ?_
        refine lv_iload hx hb d_FF_isFact_127 (lv_at hl 4 rfl) ?_
        refine lv_icmp_ge (tgt := 136) hx hb d_FF_isFact_129 (by decide) (fun c_129 => ?_) (fun c_129 => ?_)
        · replace hf := fh_t c_129 hf
          refine lv_iconst (v := 0) hx hb d_FF_isFact_136 (by decide) ?_
          obtain rfl := Option.some.inj hf
          exact fh_iret S hr hk (fh_nb (Or.inl rfl)) hAe hI d_FF_isFact_137
        · replace hf := fh_f c_129 hf
          refine lv_iconst (v := 1) hx hb d_FF_isFact_132 (by decide) ?_
          refine lv_goto (tgt := 137) hx hb d_FF_isFact_133 (by decide) ?_
          obtain rfl := Option.some.inj hf
          exact fh_iret S hr hk (fh_nb (Or.inr rfl)) hAe hI d_FF_isFact_137
  replace hf := fh_f c_1_5 hf
  by_cases c_1_6 : a0 = 6
  · replace hf := fh_t c_1_6 hf
    refine lv_tableIn (tgt := 138) hx hb d_FF_isFact_1 (by rw [c_1_6]; decide) (by rw [c_1_6]; decide) (off := 137) (by rw [c_1_6]; decide) (by decide) ?_
    refine lv_iload_n hx hb d_FF_isFact_138 rfl (lv_at hl 2 rfl) ?_
    refine lv_iload_n hx hb d_FF_isFact_139 rfl (lv_at hl 3 rfl) ?_
    refine lv_icmp_ge (tgt := 157) hx hb d_FF_isFact_140 (by decide) (fun c_140 => ?_) (fun c_140 => ?_)
    · replace hf := fh_t c_140 hf
      refine lv_iconst (v := 0) hx hb d_FF_isFact_157 (by decide) ?_
      obtain rfl := Option.some.inj hf
      exact fh_iret S hr hk (fh_nb (Or.inl rfl)) hAe hI d_FF_isFact_158
    · replace hf := fh_f c_140 hf
      refine lv_iload_n hx hb d_FF_isFact_143 rfl (lv_at hl 1 rfl) ?_
      refine lv_iload_n hx hb d_FF_isFact_144 rfl (lv_at hl 2 rfl) ?_
      refine lv_icmp_eq (tgt := 157) hx hb d_FF_isFact_145 (by decide) (fun c_145 => ?_) (fun c_145 => ?_)
      · replace hf := fh_t c_145 hf
        refine lv_iconst (v := 0) hx hb d_FF_isFact_157 (by decide) ?_
        obtain rfl := Option.some.inj hf
        exact fh_iret S hr hk (fh_nb (Or.inl rfl)) hAe hI d_FF_isFact_158
      · replace hf := fh_f c_145 hf
        refine lv_iload_n hx hb d_FF_isFact_148 rfl (lv_at hl 1 rfl) ?_
        refine lv_iload_n hx hb d_FF_isFact_149 rfl (lv_at hl 3 rfl) ?_
        refine lv_icmp_eq (tgt := 157) hx hb d_FF_isFact_150 (by decide) (fun c_150 => ?_) (fun c_150 => ?_)
        · replace hf := fh_t c_150 hf
          refine lv_iconst (v := 0) hx hb d_FF_isFact_157 (by decide) ?_
          obtain rfl := Option.some.inj hf
          exact fh_iret S hr hk (fh_nb (Or.inl rfl)) hAe hI d_FF_isFact_158
        · replace hf := fh_f c_150 hf
          refine lv_iconst (v := 1) hx hb d_FF_isFact_153 (by decide) ?_
          refine lv_goto (tgt := 158) hx hb d_FF_isFact_154 (by decide) ?_
          obtain rfl := Option.some.inj hf
          exact fh_iret S hr hk (fh_nb (Or.inr rfl)) hAe hI d_FF_isFact_158
  replace hf := fh_f c_1_6 hf
  by_cases c_1_7 : a0 = 7
  · replace hf := fh_t c_1_7 hf
    refine lv_tableIn (tgt := 159) hx hb d_FF_isFact_1 (by rw [c_1_7]; decide) (by rw [c_1_7]; decide) (off := 158) (by rw [c_1_7]; decide) (by decide) ?_
    refine lv_iload_n hx hb d_FF_isFact_159 rfl (lv_at hl 1 rfl) ?_
    refine lv_iload_n hx hb d_FF_isFact_160 rfl (lv_at hl 2 rfl) ?_
    refine lv_icmp_ge (tgt := 217) hx hb d_FF_isFact_161 (by decide) (fun c_161 => ?_) (fun c_161 => ?_)
    · replace hf := fh_t c_161 hf
      refine lv_iconst (v := 0) hx hb d_FF_isFact_217 (by decide) ?_
      obtain rfl := Option.some.inj hf
      exact fh_iret S hr hk (fh_nb (Or.inl rfl)) hAe hI d_FF_isFact_218
    · replace hf := fh_f c_161 hf
      refine lv_iload_n hx hb d_FF_isFact_164 rfl (lv_at hl 2 rfl) ?_
      refine lv_iload_n hx hb d_FF_isFact_165 rfl (lv_at hl 3 rfl) ?_
      refine lv_icmp_ge (tgt := 217) hx hb d_FF_isFact_166 (by decide) (fun c_166 => ?_) (fun c_166 => ?_)
      · replace hf := fh_t c_166 hf
        refine lv_iconst (v := 0) hx hb d_FF_isFact_217 (by decide) ?_
        obtain rfl := Option.some.inj hf
        exact fh_iret S hr hk (fh_nb (Or.inl rfl)) hAe hI d_FF_isFact_218
      · replace hf := fh_f c_166 hf
        refine lv_iload hx hb d_FF_isFact_169 (lv_at hl 4 rfl) ?_
        refine lv_iload hx hb d_FF_isFact_171 (lv_at hl 5 rfl) ?_
        refine lv_icmp_ge (tgt := 217) hx hb d_FF_isFact_173 (by decide) (fun c_173 => ?_) (fun c_173 => ?_)
        · replace hf := fh_t c_173 hf
          refine lv_iconst (v := 0) hx hb d_FF_isFact_217 (by decide) ?_
          obtain rfl := Option.some.inj hf
          exact fh_iret S hr hk (fh_nb (Or.inl rfl)) hAe hI d_FF_isFact_218
        · replace hf := fh_f c_173 hf
          refine lv_iload hx hb d_FF_isFact_176 (lv_at hl 5 rfl) ?_
          refine lv_iload hx hb d_FF_isFact_178 (lv_at hl 6 rfl) ?_
          refine lv_icmp_ge (tgt := 217) hx hb d_FF_isFact_180 (by decide) (fun c_180 => ?_) (fun c_180 => ?_)
          · replace hf := fh_t c_180 hf
            refine lv_iconst (v := 0) hx hb d_FF_isFact_217 (by decide) ?_
            obtain rfl := Option.some.inj hf
            exact fh_iret S hr hk (fh_nb (Or.inl rfl)) hAe hI d_FF_isFact_218
          · replace hf := fh_f c_180 hf
            refine lv_iload_n hx hb d_FF_isFact_183 rfl (lv_at hl 1 rfl) ?_
            refine lv_iload hx hb d_FF_isFact_184 (lv_at hl 4 rfl) ?_
            refine lv_icmp_lt (tgt := 213) hx hb d_FF_isFact_186 (by decide) (fun c_186 => ?_) (fun c_186 => ?_)
            · replace hf := fh_t c_186 hf
              refine lv_iconst (v := 1) hx hb d_FF_isFact_213 (by decide) ?_
              refine lv_goto (tgt := 218) hx hb d_FF_isFact_214 (by decide) ?_
              obtain rfl := Option.some.inj hf
              exact fh_iret S hr hk (fh_nb (Or.inr rfl)) hAe hI d_FF_isFact_218
            · replace hf := fh_f c_186 hf
              refine lv_iload_n hx hb d_FF_isFact_189 rfl (lv_at hl 1 rfl) ?_
              refine lv_iload hx hb d_FF_isFact_190 (lv_at hl 4 rfl) ?_
              refine lv_icmp_ne (tgt := 217) hx hb d_FF_isFact_192 (by decide) (fun c_192 => ?_) (fun c_192 => ?_)
              · replace hf := fh_f c_192 hf
                refine lv_iconst (v := 0) hx hb d_FF_isFact_217 (by decide) ?_
                obtain rfl := Option.some.inj hf
                exact fh_iret S hr hk (fh_nb (Or.inl rfl)) hAe hI d_FF_isFact_218
              · replace hf := fh_t c_192 hf
                refine lv_iload_n hx hb d_FF_isFact_195 rfl (lv_at hl 2 rfl) ?_
                refine lv_iload hx hb d_FF_isFact_196 (lv_at hl 5 rfl) ?_
                refine lv_icmp_lt (tgt := 213) hx hb d_FF_isFact_198 (by decide) (fun c_198 => ?_) (fun c_198 => ?_)
                · replace hf := fh_t c_198 hf
                  refine lv_iconst (v := 1) hx hb d_FF_isFact_213 (by decide) ?_
                  refine lv_goto (tgt := 218) hx hb d_FF_isFact_214 (by decide) ?_
                  obtain rfl := Option.some.inj hf
                  exact fh_iret S hr hk (fh_nb (Or.inr rfl)) hAe hI d_FF_isFact_218
                · replace hf := fh_f c_198 hf
                  refine lv_iload_n hx hb d_FF_isFact_201 rfl (lv_at hl 2 rfl) ?_
                  refine lv_iload hx hb d_FF_isFact_202 (lv_at hl 5 rfl) ?_
                  refine lv_icmp_ne (tgt := 217) hx hb d_FF_isFact_204 (by decide) (fun c_204 => ?_) (fun c_204 => ?_)
                  · replace hf := fh_f c_204 hf
                    refine lv_iconst (v := 0) hx hb d_FF_isFact_217 (by decide) ?_
                    obtain rfl := Option.some.inj hf
                    exact fh_iret S hr hk (fh_nb (Or.inl rfl)) hAe hI d_FF_isFact_218
                  · replace hf := fh_t c_204 hf
                    refine lv_iload_n hx hb d_FF_isFact_207 rfl (lv_at hl 3 rfl) ?_
                    refine lv_iload hx hb d_FF_isFact_208 (lv_at hl 6 rfl) ?_
                    refine lv_icmp_ge (tgt := 217) hx hb d_FF_isFact_210 (by decide) (fun c_210 => ?_) (fun c_210 => ?_)
                    · replace hf := fh_t c_210 hf
                      refine lv_iconst (v := 0) hx hb d_FF_isFact_217 (by decide) ?_
                      obtain rfl := Option.some.inj hf
                      exact fh_iret S hr hk (fh_nb (Or.inl rfl)) hAe hI d_FF_isFact_218
                    · replace hf := fh_f c_210 hf
                      refine lv_iconst (v := 1) hx hb d_FF_isFact_213 (by decide) ?_
                      refine lv_goto (tgt := 218) hx hb d_FF_isFact_214 (by decide) ?_
                      obtain rfl := Option.some.inj hf
                      exact fh_iret S hr hk (fh_nb (Or.inr rfl)) hAe hI d_FF_isFact_218
  replace hf := fh_f c_1_7 hf
  by_cases c_1_8 : a0 = 8
  · replace hf := fh_t c_1_8 hf
    refine lv_tableIn (tgt := 107) hx hb d_FF_isFact_1 (by rw [c_1_8]; decide) (by rw [c_1_8]; decide) (off := 106) (by rw [c_1_8]; decide) (by decide) ?_
    refine lv_iload_n hx hb d_FF_isFact_107 rfl (lv_at hl 1 rfl) ?_
    refine lv_iload_n hx hb d_FF_isFact_108 rfl (lv_at hl 2 rfl) ?_
    refine lv_iload_n hx hb d_FF_isFact_109 rfl (lv_at hl 3 rfl) ?_
    refine lv_iload hx hb d_FF_isFact_110 (lv_at hl 4 rfl) ?_
    obtain ⟨r5, e_r5, hf⟩ := fh_b hf
    refine fh_callS (As := [.int a1, .int a2, .int a3, .int a4]) (rest := []) S fT_good hE hI (c_FF_areTwoPairs e_r5) fy_FF_areTwoPairs fst_FF_areTwoPairs k_79 ⟨rfl, rfl⟩ ⟨Nat.le_of_ble_eq_true rfl, Nat.le_of_ble_eq_true rfl⟩ ⟨Nat.zero_le _, Nat.zero_le _⟩ rfl hl.1 rfl (Nat.le_of_ble_eq_true rfl) d_FF_isFact_112 (fun H locs hI => ?_)
    obtain ⟨hz, rfl⟩ := fz_s hf
    exact fh_iret S hr hk (fh_nb hz) hAe hI d_FF_isFact_115
  replace hf := fh_f c_1_8 hf
  have c_1 : a0.toInt < 0 ∨ 8 < a0.toInt := by
    have q0 : a0.toInt ≠ 0 := fun q => c_1_0 (Int32.toInt_inj.mp (q.trans (by decide)))
    have q1 : a0.toInt ≠ 1 := fun q => c_1_1 (Int32.toInt_inj.mp (q.trans (by decide)))
    have q2 : a0.toInt ≠ 2 := fun q => c_1_2 (Int32.toInt_inj.mp (q.trans (by decide)))
    have q3 : a0.toInt ≠ 3 := fun q => c_1_3 (Int32.toInt_inj.mp (q.trans (by decide)))
    have q4 : a0.toInt ≠ 4 := fun q => c_1_4 (Int32.toInt_inj.mp (q.trans (by decide)))
    have q5 : a0.toInt ≠ 5 := fun q => c_1_5 (Int32.toInt_inj.mp (q.trans (by decide)))
    have q6 : a0.toInt ≠ 6 := fun q => c_1_6 (Int32.toInt_inj.mp (q.trans (by decide)))
    have q7 : a0.toInt ≠ 7 := fun q => c_1_7 (Int32.toInt_inj.mp (q.trans (by decide)))
    have q8 : a0.toInt ≠ 8 := fun q => c_1_8 (Int32.toInt_inj.mp (q.trans (by decide)))
    omega
  refine lv_tableOut (tgt := 219) hx hb d_FF_isFact_1 c_1 (by decide) ?_
  refine lv_iconst (v := 0) hx hb d_FF_isFact_219 (by decide) ?_
  obtain rfl := Option.some.inj hf
  exact fh_iret S hr hk (fh_nb (Or.inl rfl)) hAe hI d_FF_isFact_220
theorem d_FF_join_0 : decode c0_FF_join 0 = .ok (.iload_n 0, 1) := by decide +kernel
theorem d_FF_join_1 : decode c0_FF_join 1 = .ok (.iload_n 1, 1) := by decide +kernel
theorem d_FF_join_2 : decode c0_FF_join 2 = .ok (.bipush 12, 2) := by decide +kernel
theorem d_FF_join_4 : decode c0_FF_join 4 = .ok (.ishl, 1) := by decide +kernel
theorem d_FF_join_5 : decode c0_FF_join 5 = .ok (.ior, 1) := by decide +kernel
theorem d_FF_join_6 : decode c0_FF_join 6 = .ok (.ireturn, 1) := by decide +kernel
def f_FF_join (K : Nat → ClassId) (N : Nat) (a0 : Int32) (a1 : Int32) (h0 : fh_H) : Option (Int32 × fh_H) :=
  some (a0 ||| (a1 <<< ((12 : Int32) &&& 31)), h0)
set_option maxHeartbeats 4000000 in
set_option maxRecDepth 100000 in
theorem c_FF_join {l : Launch} {D : va_G} {K : Nat → ClassId} {t : Nat → Nat} {N : Nat} {a0 : Int32} {a1 : Int32} {h0 : fh_H} {res : Int32 × fh_H} (hf : f_FF_join K N a0 a1 h0 = some res) : fC l D K t y_FF_join c0_FF_join 2 (some .int) rm_FF_join [.int a0, .int a1] h0 (some (.int res.1)) res.2 := by
  refine fh_body (by decide) (Nat.le_of_ble_eq_true rfl) ?_
  intro p e s m below meth c A ls S hr hk hnm hE hAe hI hl
  obtain ⟨hx, hb, hml, hown, hts⟩ := id S
  have hl : lv_has ls 2 [(0, .int a0), (1, .int a1)] := hl
  unfold f_FF_join at hf
  refine lv_iload_n hx hb d_FF_join_0 rfl (lv_at hl 0 rfl) ?_
  refine lv_iload_n hx hb d_FF_join_1 rfl (lv_at hl 1 rfl) ?_
  refine lv_bipush (v := 12) hx hb d_FF_join_2 (by decide) ?_
  refine lv_ishl hx hb d_FF_join_4 ?_
  refine lv_ior hx hb d_FF_join_5 ?_
  obtain rfl := Option.some.inj hf
  exact fh_iret S hr hk rfl hAe hI d_FF_join_6
theorem d_Dr_firstWithLength_0 : decode c0_Dr_firstWithLength 0 = .ok (.iconst 0, 1) := by decide +kernel
theorem d_Dr_firstWithLength_1 : decode c0_Dr_firstWithLength 1 = .ok (.istore_n 2, 1) := by decide +kernel
theorem d_Dr_firstWithLength_2 : decode c0_Dr_firstWithLength 2 = .ok (.iload_n 2, 1) := by decide +kernel
theorem d_Dr_firstWithLength_3 : decode c0_Dr_firstWithLength 3 = .ok (.aload_n 0, 1) := by decide +kernel
theorem d_Dr_firstWithLength_4 : decode c0_Dr_firstWithLength 4 = .ok (.getfield 25, 3) := by decide +kernel
theorem d_Dr_firstWithLength_7 : decode c0_Dr_firstWithLength 7 = .ok (.if_icmp .ge 64, 3) := by decide +kernel
theorem d_Dr_firstWithLength_10 : decode c0_Dr_firstWithLength 10 = .ok (.aload_n 0, 1) := by decide +kernel
theorem d_Dr_firstWithLength_11 : decode c0_Dr_firstWithLength 11 = .ok (.getfield 11, 3) := by decide +kernel
theorem d_Dr_firstWithLength_14 : decode c0_Dr_firstWithLength 14 = .ok (.iload_n 2, 1) := by decide +kernel
theorem d_Dr_firstWithLength_15 : decode c0_Dr_firstWithLength 15 = .ok (.aaload, 1) := by decide +kernel
theorem d_Dr_firstWithLength_16 : decode c0_Dr_firstWithLength 16 = .ok (.astore_n 3, 1) := by decide +kernel
theorem d_Dr_firstWithLength_17 : decode c0_Dr_firstWithLength 17 = .ok (.aload_n 3, 1) := by decide +kernel
theorem d_Dr_firstWithLength_18 : decode c0_Dr_firstWithLength 18 = .ok (.getfield 40, 3) := by decide +kernel
theorem d_Dr_firstWithLength_21 : decode c0_Dr_firstWithLength 21 = .ok (.iconst (-1), 1) := by decide +kernel
theorem d_Dr_firstWithLength_22 : decode c0_Dr_firstWithLength 22 = .ok (.if_icmp .ne 43, 3) := by decide +kernel
theorem d_Dr_firstWithLength_25 : decode c0_Dr_firstWithLength 25 = .ok (.aload_n 3, 1) := by decide +kernel
theorem d_Dr_firstWithLength_26 : decode c0_Dr_firstWithLength 26 = .ok (.iload_n 1, 1) := by decide +kernel
theorem d_Dr_firstWithLength_27 : decode c0_Dr_firstWithLength 27 = .ok (.iconst 0, 1) := by decide +kernel
theorem d_Dr_firstWithLength_28 : decode c0_Dr_firstWithLength 28 = .ok (.invokestatic 62, 3) := by decide +kernel
theorem d_Dr_firstWithLength_31 : decode c0_Dr_firstWithLength 31 = .ok (.iload_n 1, 1) := by decide +kernel
theorem d_Dr_firstWithLength_32 : decode c0_Dr_firstWithLength 32 = .ok (.iconst 1, 1) := by decide +kernel
theorem d_Dr_firstWithLength_33 : decode c0_Dr_firstWithLength 33 = .ok (.invokestatic 62, 3) := by decide +kernel
theorem d_Dr_firstWithLength_36 : decode c0_Dr_firstWithLength 36 = .ok (.invokevirtual 66, 3) := by decide +kernel
theorem d_Dr_firstWithLength_39 : decode c0_Dr_firstWithLength 39 = .ok (.lconst 0, 1) := by decide +kernel
theorem d_Dr_firstWithLength_40 : decode c0_Dr_firstWithLength 40 = .ok (.lcmp, 1) := by decide +kernel
theorem d_Dr_firstWithLength_41 : decode c0_Dr_firstWithLength 41 = .ok (.ifCond .ne 22, 3) := by decide +kernel
theorem d_Dr_firstWithLength_44 : decode c0_Dr_firstWithLength 44 = .ok (.aload_n 3, 1) := by decide +kernel
theorem d_Dr_firstWithLength_45 : decode c0_Dr_firstWithLength 45 = .ok (.iload_n 1, 1) := by decide +kernel
theorem d_Dr_firstWithLength_46 : decode c0_Dr_firstWithLength 46 = .ok (.iconst 2, 1) := by decide +kernel
theorem d_Dr_firstWithLength_47 : decode c0_Dr_firstWithLength 47 = .ok (.invokestatic 62, 3) := by decide +kernel
theorem d_Dr_firstWithLength_50 : decode c0_Dr_firstWithLength 50 = .ok (.iload_n 1, 1) := by decide +kernel
theorem d_Dr_firstWithLength_51 : decode c0_Dr_firstWithLength 51 = .ok (.iconst 3, 1) := by decide +kernel
theorem d_Dr_firstWithLength_52 : decode c0_Dr_firstWithLength 52 = .ok (.invokestatic 62, 3) := by decide +kernel
theorem d_Dr_firstWithLength_55 : decode c0_Dr_firstWithLength 55 = .ok (.invokevirtual 66, 3) := by decide +kernel
theorem d_Dr_firstWithLength_58 : decode c0_Dr_firstWithLength 58 = .ok (.lconst 0, 1) := by decide +kernel
theorem d_Dr_firstWithLength_59 : decode c0_Dr_firstWithLength 59 = .ok (.lcmp, 1) := by decide +kernel
theorem d_Dr_firstWithLength_60 : decode c0_Dr_firstWithLength 60 = .ok (.ifCond .eq 5, 3) := by decide +kernel
theorem d_Dr_firstWithLength_63 : decode c0_Dr_firstWithLength 63 = .ok (.aload_n 3, 1) := by decide +kernel
theorem d_Dr_firstWithLength_64 : decode c0_Dr_firstWithLength 64 = .ok (.areturn, 1) := by decide +kernel
theorem d_Dr_firstWithLength_65 : decode c0_Dr_firstWithLength 65 = .ok (.iinc 2 1, 3) := by decide +kernel
theorem d_Dr_firstWithLength_68 : decode c0_Dr_firstWithLength 68 = .ok (.goto (-66), 3) := by decide +kernel
theorem d_Dr_firstWithLength_71 : decode c0_Dr_firstWithLength 71 = .ok (.aconst_null, 1) := by decide +kernel
theorem d_Dr_firstWithLength_72 : decode c0_Dr_firstWithLength 72 = .ok (.areturn, 1) := by decide +kernel
def b_Dr_firstWithLength_65 (K : Nat → ClassId) (N : Nat) (k2 : Int32 → Int32 → fh_H → Option (Option Nat × fh_H)) (o : Nat) (v1 : Int32) (v2 : Int32) (h : fh_H) : Option (Option Nat × fh_H) :=
  (some (v2 + 1)).bind fun x1 => k2 v1 x1 h
def b_Dr_firstWithLength_2 (K : Nat → ClassId) (N : Nat) (k2 : Int32 → Int32 → fh_H → Option (Option Nat × fh_H)) (o : Nat) (v1 : Int32) (v2 : Int32) (h : fh_H) : Option (Option Nat × fh_H) :=
  (fg_i h (some o) 3 2).bind fun x1 => if x1 ≤ v2 then (some (none, h)) else ((fg_a h (some o) 3 0).bind fun x2 => (fa_a (K 3) h x2 v2).bind fun x3 => (fg_i h x3 4 3).bind fun x4 => if x4 = (-1) then ((f_FF_unpack K N v1 0 h).bind fun r5 => (f_FF_unpack K N v1 1 r5.2).bind fun r6 => (fg_o r6.2 x3 4).bind fun o7 => (f_Fi_length K N o7 r5.1 r6.1 r6.2).bind fun r8 => if (lg_cmp r8.1 0) = 0 then ((f_FF_unpack K N v1 2 r8.2).bind fun r9 => (f_FF_unpack K N v1 3 r9.2).bind fun r10 => (fg_o r10.2 x3 4).bind fun o11 => (f_Fi_length K N o11 r9.1 r10.1 r10.2).bind fun r12 => if (lg_cmp r12.1 0) = 0 then (b_Dr_firstWithLength_65 K N k2 o v1 v2 r12.2) else (some (x3, r12.2))) else (some (x3, r8.2))) else (b_Dr_firstWithLength_65 K N k2 o v1 v2 h))
def l_Dr_firstWithLength_2 (K : Nat → ClassId) (N : Nat) (o : Nat) : Nat → Int32 → Int32 → fh_H → Option (Option Nat × fh_H)
  | 0, _, _, _ => none
  | n + 1, v1, v2, h => b_Dr_firstWithLength_2 K N (l_Dr_firstWithLength_2 K N o n) o v1 v2 h
def f_Dr_firstWithLength (K : Nat → ClassId) (N : Nat) (o : Nat) (a1 : Int32) (h0 : fh_H) : Option (Option Nat × fh_H) :=
  l_Dr_firstWithLength_2 K N o N a1 0 h0
set_option maxHeartbeats 4000000 in
set_option maxRecDepth 100000 in
theorem c_Dr_firstWithLength {l : Launch} {D : va_G} {K : Nat → ClassId} {t : Nat → Nat} {N : Nat} {o : Nat} {a1 : Int32} {h0 : fh_H} {res : Option Nat × fh_H} (hf : f_Dr_firstWithLength K N o a1 h0 = some res) : fC l D K t y_Dr_firstWithLength c0_Dr_firstWithLength 4 (some (.object "FactFinder$Figure")) rm_Dr_firstWithLength [.ref o, .int a1] h0 (some (va_rf res.1)) res.2 := by
  refine fh_body (by decide) (Nat.le_of_ble_eq_true rfl) ?_
  intro p e s m below meth c A ls S hr hk hnm hE hAe hI hl
  obtain ⟨hx, hb, hml, hown, hts⟩ := id S
  have hl : lv_has ls 4 [(0, va_rf (some o)), (1, .int a1)] := hl
  have L2 : ∀ (n2 : Nat) (v1 : Int32) (v2 : Int32) (h : fh_H) (H : Heap) (locs : List Loc) (ls : Array Slot), lv_has ls 4 [(0, va_rf (some o)), (1, .int v1), (2, .int v2)] → fh_I D classes A s.heap h H locs → l_Dr_firstWithLength_2 K N o n2 v1 v2 h = some res → W p l e rm_Dr_firstWithLength s m [.ref o, .int a1].toArray below meth c H locs 0 0 (MQ below (fh_Q D classes h0 s.heap.size (some (va_rf res.1)) res.2) [.ref o, .int a1].toArray s 0 0 A) (F0 m 2 ls []) := by
    intro n2
    induction n2 with
    | zero =>
      intro v1 v2 h H locs ls hl hI hf
      exact fh_no hf
    | succ n2 ih2 =>
      have B65 : ∀ (v1 : Int32) (v2 : Int32) (h : fh_H) (H : Heap) (locs : List Loc) (ls : Array Slot), lv_has ls 4 [(0, va_rf (some o)), (1, .int v1), (2, .int v2)] → fh_I D classes A s.heap h H locs → b_Dr_firstWithLength_65 K N (l_Dr_firstWithLength_2 K N o n2) o v1 v2 h = some res → W p l e rm_Dr_firstWithLength s m [.ref o, .int a1].toArray below meth c H locs 0 0 (MQ below (fh_Q D classes h0 s.heap.size (some (va_rf res.1)) res.2) [.ref o, .int a1].toArray s 0 0 A) (F0 m 65 ls []) := by
        intro v1 v2 h H locs ls hl hI hf
        unfold b_Dr_firstWithLength_65 at hf
        obtain ⟨x1, e_x1, hf⟩ := fh_b hf
        refine lv_iinc (v := x1) (lv' := [(2, .int x1), (0, va_rf (some o)), (1, .int v1)]) hx hb d_Dr_firstWithLength_65 hl (k := 2) rfl (by rw [fh_qe e_x1]; rfl) (by decide) rfl (fun ls hl => ?_)
        refine lv_goto (tgt := 2) hx hb d_Dr_firstWithLength_68 (by decide) ?_
        exact ih2 v1 x1 h _ _ _ (lv_sub hl [1, 2, 0] rfl) hI hf
      intro v1 v2 h H locs ls hl hI hf
      have hf : b_Dr_firstWithLength_2 K N (l_Dr_firstWithLength_2 K N o n2) o v1 v2 h = some res := hf
      unfold b_Dr_firstWithLength_2 at hf
      refine lv_iload_n hx hb d_Dr_firstWithLength_2 rfl (lv_at hl 2 rfl) ?_
      refine fh_aload_n S d_Dr_firstWithLength_3 rfl (lv_at hl 0 rfl) ?_
      obtain ⟨x1, e_x1, hf⟩ := fh_b hf
      refine fh_geti S hE.1 hI e_x1 (hc := rfl) (hin := in_3) (by decide) (hts _ k_3) d_Dr_firstWithLength_4 ?_
      refine lv_icmp_ge (tgt := 71) hx hb d_Dr_firstWithLength_7 (by decide) (fun c_7 => ?_) (fun c_7 => ?_)
      · replace hf := fh_t c_7 hf
        refine lv_null hx hb d_Dr_firstWithLength_71 ?_
        obtain rfl := Option.some.inj hf
        exact fh_aret S hr (Or.inl ⟨_, rfl⟩) hk hAe hI d_Dr_firstWithLength_72
      · replace hf := fh_f c_7 hf
        refine fh_aload_n S d_Dr_firstWithLength_10 rfl (lv_at hl 0 rfl) ?_
        obtain ⟨x2, e_x2, hf⟩ := fh_b hf
        refine fh_geta S hE.1 hI e_x2 (hc := rfl) (hin := in_3) (by decide) (hts _ k_4) d_Dr_firstWithLength_11 ?_
        refine lv_iload_n hx hb d_Dr_firstWithLength_14 rfl (lv_at hl 2 rfl) ?_
        obtain ⟨x3, e_x3, hf⟩ := fh_b hf
        refine fh_aald S hE.1 hI 3 rfl e_x3 d_Dr_firstWithLength_15 ?_
        refine fh_astore_n (lv' := [(3, va_rf x3), (0, va_rf (some o)), (1, .int v1), (2, .int v2)]) S d_Dr_firstWithLength_16 rfl hl (by decide) rfl (fun ls hl => ?_)
        refine fh_aload_n S d_Dr_firstWithLength_17 rfl (lv_at hl 0 rfl) ?_
        obtain ⟨x4, e_x4, hf⟩ := fh_b hf
        refine fh_geti S hE.1 hI e_x4 (hc := rfl) (hin := in_4) (by decide) (hts _ k_36) d_Dr_firstWithLength_18 ?_
        refine lv_iconst (v := (-1)) hx hb d_Dr_firstWithLength_21 (by decide) ?_
        refine lv_icmp_ne (tgt := 65) hx hb d_Dr_firstWithLength_22 (by decide) (fun c_22 => ?_) (fun c_22 => ?_)
        · replace hf := fh_f c_22 hf
          exact B65 v1 v2 h _ _ _ (lv_sub hl [1, 2, 3] rfl) hI hf
        · replace hf := fh_t c_22 hf
          refine fh_aload_n S d_Dr_firstWithLength_25 rfl (lv_at hl 0 rfl) ?_
          refine lv_iload_n hx hb d_Dr_firstWithLength_26 rfl (lv_at hl 2 rfl) ?_
          refine lv_iconst (v := 0) hx hb d_Dr_firstWithLength_27 (by decide) ?_
          obtain ⟨r5, e_r5, hf⟩ := fh_b hf
          refine fh_callSN (As := [.int v1, .int 0]) (rest := [va_rf x3]) S fT_good hE hI (c_FF_unpack e_r5) fy_FF_unpack fst_FF_unpack kn_4 ⟨rfl, rfl⟩ ⟨Nat.le_of_ble_eq_true rfl, Nat.le_of_ble_eq_true rfl⟩ ⟨Nat.zero_le _, Nat.zero_le _⟩ rfl hl.1 rfl (Nat.le_trans (fh_cat _) (Nat.le_of_ble_eq_true rfl)) d_Dr_firstWithLength_28 (fun H locs hI => ?_)
          refine lv_iload_n hx hb d_Dr_firstWithLength_31 rfl (lv_at hl 2 rfl) ?_
          refine lv_iconst (v := 1) hx hb d_Dr_firstWithLength_32 (by decide) ?_
          obtain ⟨r6, e_r6, hf⟩ := fh_b hf
          refine fh_callSN (As := [.int v1, .int 1]) (rest := [.int r5.1, va_rf x3]) S fT_good hE hI (c_FF_unpack e_r6) fy_FF_unpack fst_FF_unpack kn_4 ⟨rfl, rfl⟩ ⟨Nat.le_of_ble_eq_true rfl, Nat.le_of_ble_eq_true rfl⟩ ⟨Nat.zero_le _, Nat.zero_le _⟩ rfl hl.1 rfl (Nat.le_trans (fh_cat _) (Nat.le_of_ble_eq_true rfl)) d_Dr_firstWithLength_33 (fun H locs hI => ?_)
          obtain ⟨o7, e_o7, hf⟩ := fh_b hf
          obtain ⟨r8, e_r8, hf⟩ := fh_b hf
          refine fh_callV (As := [.int r5.1, .int r6.1]) (rest := []) S fT_good hE hI e_o7 rfl (c_Fi_length e_r8) fy_Fi_length fst_Fi_length k_81 ⟨rfl, rfl⟩ ⟨Nat.le_of_ble_eq_true rfl, Nat.le_of_ble_eq_true rfl⟩ ⟨Nat.zero_le _, Nat.zero_le _⟩ rfl hl.1 rfl (Nat.le_of_ble_eq_true rfl) d_Dr_firstWithLength_36 (fun H locs hI => ?_)
          refine lv_lconst (v := 0) hx hb d_Dr_firstWithLength_39 (by decide) ?_
          refine W.lcmp hx hb d_Dr_firstWithLength_40 ?_
          refine lv_if_ne (tgt := 63) hx hb d_Dr_firstWithLength_41 (by decide) (fun c_41 => ?_) (fun c_41 => ?_)
          · replace hf := fh_f c_41 hf
            refine fh_aload_n S d_Dr_firstWithLength_63 rfl (lv_at hl 0 rfl) ?_
            obtain rfl := Option.some.inj hf
            exact fh_aret S hr (Or.inl ⟨_, rfl⟩) hk hAe hI d_Dr_firstWithLength_64
          · replace hf := fh_t c_41 hf
            refine fh_aload_n S d_Dr_firstWithLength_44 rfl (lv_at hl 0 rfl) ?_
            refine lv_iload_n hx hb d_Dr_firstWithLength_45 rfl (lv_at hl 2 rfl) ?_
            refine lv_iconst (v := 2) hx hb d_Dr_firstWithLength_46 (by decide) ?_
            obtain ⟨r9, e_r9, hf⟩ := fh_b hf
            refine fh_callSN (As := [.int v1, .int 2]) (rest := [va_rf x3]) S fT_good hE hI (c_FF_unpack e_r9) fy_FF_unpack fst_FF_unpack kn_4 ⟨rfl, rfl⟩ ⟨Nat.le_of_ble_eq_true rfl, Nat.le_of_ble_eq_true rfl⟩ ⟨Nat.zero_le _, Nat.zero_le _⟩ rfl hl.1 rfl (Nat.le_trans (fh_cat _) (Nat.le_of_ble_eq_true rfl)) d_Dr_firstWithLength_47 (fun H locs hI => ?_)
            refine lv_iload_n hx hb d_Dr_firstWithLength_50 rfl (lv_at hl 2 rfl) ?_
            refine lv_iconst (v := 3) hx hb d_Dr_firstWithLength_51 (by decide) ?_
            obtain ⟨r10, e_r10, hf⟩ := fh_b hf
            refine fh_callSN (As := [.int v1, .int 3]) (rest := [.int r9.1, va_rf x3]) S fT_good hE hI (c_FF_unpack e_r10) fy_FF_unpack fst_FF_unpack kn_4 ⟨rfl, rfl⟩ ⟨Nat.le_of_ble_eq_true rfl, Nat.le_of_ble_eq_true rfl⟩ ⟨Nat.zero_le _, Nat.zero_le _⟩ rfl hl.1 rfl (Nat.le_trans (fh_cat _) (Nat.le_of_ble_eq_true rfl)) d_Dr_firstWithLength_52 (fun H locs hI => ?_)
            obtain ⟨o11, e_o11, hf⟩ := fh_b hf
            obtain ⟨r12, e_r12, hf⟩ := fh_b hf
            refine fh_callV (As := [.int r9.1, .int r10.1]) (rest := []) S fT_good hE hI e_o11 rfl (c_Fi_length e_r12) fy_Fi_length fst_Fi_length k_81 ⟨rfl, rfl⟩ ⟨Nat.le_of_ble_eq_true rfl, Nat.le_of_ble_eq_true rfl⟩ ⟨Nat.zero_le _, Nat.zero_le _⟩ rfl hl.1 rfl (Nat.le_of_ble_eq_true rfl) d_Dr_firstWithLength_55 (fun H locs hI => ?_)
            refine lv_lconst (v := 0) hx hb d_Dr_firstWithLength_58 (by decide) ?_
            refine W.lcmp hx hb d_Dr_firstWithLength_59 ?_
            refine lv_if_eq (tgt := 65) hx hb d_Dr_firstWithLength_60 (by decide) (fun c_60 => ?_) (fun c_60 => ?_)
            · replace hf := fh_t c_60 hf
              exact B65 v1 v2 r12.2 _ _ _ (lv_sub hl [1, 2, 3] rfl) hI hf
            · replace hf := fh_f c_60 hf
              refine fh_aload_n S d_Dr_firstWithLength_63 rfl (lv_at hl 0 rfl) ?_
              obtain rfl := Option.some.inj hf
              exact fh_aret S hr (Or.inl ⟨_, rfl⟩) hk hAe hI d_Dr_firstWithLength_64
  unfold f_Dr_firstWithLength at hf
  refine lv_iconst (v := 0) hx hb d_Dr_firstWithLength_0 (by decide) ?_
  refine lv_istore_n (lv' := [(2, .int 0), (0, va_rf (some o)), (1, .int a1)]) hx hb d_Dr_firstWithLength_1 rfl hl (by decide) rfl (fun ls hl => ?_)
  exact L2 N a1 0 h0 _ _ _ (lv_sub hl [1, 2, 0] rfl) hI hf
theorem d_Dr_withNumbers_0 : decode c0_Dr_withNumbers 0 = .ok (.iload_n 0, 1) := by decide +kernel
theorem d_Dr_withNumbers_1 : decode c0_Dr_withNumbers 1 = .ok (.ldc 78, 2) := by decide +kernel
theorem d_Dr_withNumbers_3 : decode c0_Dr_withNumbers 3 = .ok (.iand, 1) := by decide +kernel
theorem d_Dr_withNumbers_4 : decode c0_Dr_withNumbers 4 = .ok (.istore_n 3, 1) := by decide +kernel
theorem d_Dr_withNumbers_5 : decode c0_Dr_withNumbers 5 = .ok (.iload_n 3, 1) := by decide +kernel
theorem d_Dr_withNumbers_6 : decode c0_Dr_withNumbers 6 = .ok (.iload_n 1, 1) := by decide +kernel
theorem d_Dr_withNumbers_7 : decode c0_Dr_withNumbers 7 = .ok (.bipush 16, 2) := by decide +kernel
theorem d_Dr_withNumbers_9 : decode c0_Dr_withNumbers 9 = .ok (.ishl, 1) := by decide +kernel
theorem d_Dr_withNumbers_10 : decode c0_Dr_withNumbers 10 = .ok (.ior, 1) := by decide +kernel
theorem d_Dr_withNumbers_11 : decode c0_Dr_withNumbers 11 = .ok (.iload_n 2, 1) := by decide +kernel
theorem d_Dr_withNumbers_12 : decode c0_Dr_withNumbers 12 = .ok (.bipush 20, 2) := by decide +kernel
theorem d_Dr_withNumbers_14 : decode c0_Dr_withNumbers 14 = .ok (.ishl, 1) := by decide +kernel
theorem d_Dr_withNumbers_15 : decode c0_Dr_withNumbers 15 = .ok (.ior, 1) := by decide +kernel
theorem d_Dr_withNumbers_16 : decode c0_Dr_withNumbers 16 = .ok (.ireturn, 1) := by decide +kernel
def f_Dr_withNumbers (K : Nat → ClassId) (N : Nat) (a0 : Int32) (a1 : Int32) (a2 : Int32) (h0 : fh_H) : Option (Int32 × fh_H) :=
  (some (a0 &&& 65535)).bind fun x1 => (some ((x1 ||| (a1 <<< ((16 : Int32) &&& 31))) ||| (a2 <<< ((20 : Int32) &&& 31)))).bind fun x2 => some (x2, h0)
set_option maxHeartbeats 4000000 in
set_option maxRecDepth 100000 in
theorem c_Dr_withNumbers {l : Launch} {D : va_G} {K : Nat → ClassId} {t : Nat → Nat} {N : Nat} {a0 : Int32} {a1 : Int32} {a2 : Int32} {h0 : fh_H} {res : Int32 × fh_H} (hf : f_Dr_withNumbers K N a0 a1 a2 h0 = some res) : fC l D K t y_Dr_withNumbers c0_Dr_withNumbers 4 (some .int) rm_Dr_withNumbers [.int a0, .int a1, .int a2] h0 (some (.int res.1)) res.2 := by
  refine fh_body (by decide) (Nat.le_of_ble_eq_true rfl) ?_
  intro p e s m below meth c A ls S hr hk hnm hE hAe hI hl
  obtain ⟨hx, hb, hml, hown, hts⟩ := id S
  have hl : lv_has ls 4 [(0, .int a0), (1, .int a1), (2, .int a2)] := hl
  unfold f_Dr_withNumbers at hf
  refine lv_iload_n hx hb d_Dr_withNumbers_0 rfl (lv_at hl 0 rfl) ?_
  refine lv_ldc hx hb hown (hts _ k_82) d_Dr_withNumbers_1 ?_
  refine lv_iand hx hb d_Dr_withNumbers_3 ?_
  obtain ⟨x1, e_x1, hf⟩ := fh_b hf
  refine fh_topi e_x1 ?_
  refine lv_istore_n (lv' := [(3, .int x1), (0, .int a0), (1, .int a1), (2, .int a2)]) hx hb d_Dr_withNumbers_4 rfl hl (by decide) rfl (fun ls hl => ?_)
  refine lv_iload_n hx hb d_Dr_withNumbers_5 rfl (lv_at hl 0 rfl) ?_
  refine lv_iload_n hx hb d_Dr_withNumbers_6 rfl (lv_at hl 2 rfl) ?_
  refine lv_bipush (v := 16) hx hb d_Dr_withNumbers_7 (by decide) ?_
  refine lv_ishl hx hb d_Dr_withNumbers_9 ?_
  refine lv_ior hx hb d_Dr_withNumbers_10 ?_
  refine lv_iload_n hx hb d_Dr_withNumbers_11 rfl (lv_at hl 3 rfl) ?_
  refine lv_bipush (v := 20) hx hb d_Dr_withNumbers_12 (by decide) ?_
  refine lv_ishl hx hb d_Dr_withNumbers_14 ?_
  refine lv_ior hx hb d_Dr_withNumbers_15 ?_
  obtain ⟨x2, e_x2, hf⟩ := fh_b hf
  refine fh_topi e_x2 ?_
  obtain rfl := Option.some.inj hf
  exact fh_iret S hr hk rfl hAe hI d_Dr_withNumbers_16
theorem d_Dr_divide_0 : decode c0_Dr_divide 0 = .ok (.lload_n 3, 1) := by decide +kernel
theorem d_Dr_divide_1 : decode c0_Dr_divide 1 = .ok (.aload_n 0, 1) := by decide +kernel
theorem d_Dr_divide_2 : decode c0_Dr_divide 2 = .ok (.getfield 17, 3) := by decide +kernel
theorem d_Dr_divide_5 : decode c0_Dr_divide 5 = .ok (.lcmp, 1) := by decide +kernel
theorem d_Dr_divide_6 : decode c0_Dr_divide 6 = .ok (.ifCond .eq 16, 3) := by decide +kernel
theorem d_Dr_divide_9 : decode c0_Dr_divide 9 = .ok (.aload_n 0, 1) := by decide +kernel
theorem d_Dr_divide_10 : decode c0_Dr_divide 10 = .ok (.lload_n 3, 1) := by decide +kernel
theorem d_Dr_divide_11 : decode c0_Dr_divide 11 = .ok (.putfield 17, 3) := by decide +kernel
theorem d_Dr_divide_14 : decode c0_Dr_divide 14 = .ok (.aload_n 0, 1) := by decide +kernel
theorem d_Dr_divide_15 : decode c0_Dr_divide 15 = .ok (.lload_n 3, 1) := by decide +kernel
theorem d_Dr_divide_16 : decode c0_Dr_divide 16 = .ok (.invokestatic 79, 3) := by decide +kernel
theorem d_Dr_divide_19 : decode c0_Dr_divide 19 = .ok (.putfield 21, 3) := by decide +kernel
theorem d_Dr_divide_22 : decode c0_Dr_divide 22 = .ok (.lload_n 1, 1) := by decide +kernel
theorem d_Dr_divide_23 : decode c0_Dr_divide 23 = .ok (.aload_n 0, 1) := by decide +kernel
theorem d_Dr_divide_24 : decode c0_Dr_divide 24 = .ok (.getfield 21, 3) := by decide +kernel
theorem d_Dr_divide_27 : decode c0_Dr_divide 27 = .ok (.lmul, 1) := by decide +kernel
theorem d_Dr_divide_28 : decode c0_Dr_divide 28 = .ok (.ldc2_w 74, 3) := by decide +kernel
theorem d_Dr_divide_31 : decode c0_Dr_divide 31 = .ok (.lrem, 1) := by decide +kernel
theorem d_Dr_divide_32 : decode c0_Dr_divide 32 = .ok (.lreturn, 1) := by decide +kernel
def b_Dr_divide_22 (K : Nat → ClassId) (N : Nat) (o : Nat) (v1 : Int64) (h : fh_H) : Option (Int64 × fh_H) :=
  (fg_l h (some o) 3 4).bind fun x1 => some (fr_l (v1 * x1) 1000003, h)
def f_Dr_divide (K : Nat → ClassId) (N : Nat) (o : Nat) (a1 : Int64) (a3 : Int64) (h0 : fh_H) : Option (Int64 × fh_H) :=
  (fg_l h0 (some o) 3 3).bind fun x1 => if (lg_cmp a3 x1) = 0 then (b_Dr_divide_22 K N o a1 h0) else ((fp_v h0 (some o) 3 3 (.long a3)).bind fun h2 => (f_FF_invert K N a3 h2).bind fun r3 => (fp_v r3.2 (some o) 3 4 (.long r3.1)).bind fun h4 => b_Dr_divide_22 K N o a1 h4)
set_option maxHeartbeats 4000000 in
set_option maxRecDepth 100000 in
theorem c_Dr_divide {l : Launch} {D : va_G} {K : Nat → ClassId} {t : Nat → Nat} {N : Nat} {o : Nat} {a1 : Int64} {a3 : Int64} {h0 : fh_H} {res : Int64 × fh_H} (hf : f_Dr_divide K N o a1 a3 h0 = some res) : fC l D K t y_Dr_divide c0_Dr_divide 5 (some .long) rm_Dr_divide [.ref o, .long a1, .long a3] h0 (some (.long res.1)) res.2 := by
  refine fh_body (by decide) (Nat.le_of_ble_eq_true rfl) ?_
  intro p e s m below meth c A ls S hr hk hnm hE hAe hI hl
  obtain ⟨hx, hb, hml, hown, hts⟩ := id S
  have hl : lv_has ls 5 [(0, va_rf (some o)), (1, .long a1), (3, .long a3)] := hl
  have B22 : ∀ (v1 : Int64) (h : fh_H) (H : Heap) (locs : List Loc) (ls : Array Slot), lv_has ls 5 [(0, va_rf (some o)), (1, .long v1)] → fh_I D classes A s.heap h H locs → b_Dr_divide_22 K N o v1 h = some res → W p l e rm_Dr_divide s m [.ref o, .long a1, .long a3].toArray below meth c H locs 0 0 (MQ below (fh_Q D classes h0 s.heap.size (some (.long res.1)) res.2) [.ref o, .long a1, .long a3].toArray s 0 0 A) (F0 m 22 ls []) := by
    intro v1 h H locs ls hl hI hf
    unfold b_Dr_divide_22 at hf
    refine lv_lload_n hx hb d_Dr_divide_22 rfl (lv_at hl 1 rfl) ?_
    refine fh_aload_n S d_Dr_divide_23 rfl (lv_at hl 0 rfl) ?_
    obtain ⟨x1, e_x1, hf⟩ := fh_b hf
    refine fh_getl S hE.1 hI e_x1 (hc := rfl) (hin := in_3) (by decide) (hts _ k_84) d_Dr_divide_24 ?_
    refine lv_lmul hx hb d_Dr_divide_27 ?_
    refine lv_ldc2 hx hb hown (hts _ k_85) d_Dr_divide_28 ?_
    refine fh_lrem S d_Dr_divide_31 (by decide) ?_
    obtain rfl := Option.some.inj hf
    exact fh_lret S hr hk hAe hI d_Dr_divide_32
  unfold f_Dr_divide at hf
  refine lv_lload_n hx hb d_Dr_divide_0 rfl (lv_at hl 2 rfl) ?_
  refine fh_aload_n S d_Dr_divide_1 rfl (lv_at hl 0 rfl) ?_
  obtain ⟨x1, e_x1, hf⟩ := fh_b hf
  refine fh_getl S hE.1 hI e_x1 (hc := rfl) (hin := in_3) (by decide) (hts _ k_83) d_Dr_divide_2 ?_
  refine W.lcmp hx hb d_Dr_divide_5 ?_
  refine lv_if_eq (tgt := 22) hx hb d_Dr_divide_6 (by decide) (fun c_6 => ?_) (fun c_6 => ?_)
  · replace hf := fh_t c_6 hf
    exact B22 a1 h0 _ _ _ (lv_sub hl [0, 1] rfl) hI hf
  · replace hf := fh_f c_6 hf
    refine fh_aload_n S d_Dr_divide_9 rfl (lv_at hl 0 rfl) ?_
    refine lv_lload_n hx hb d_Dr_divide_10 rfl (lv_at hl 2 rfl) ?_
    obtain ⟨h2, e_h2, hf⟩ := fh_b hf
    refine fh_putv S hE.1 hI e_h2 (hc := rfl) (hin := in_3) tok_3 nok_3 (by decide) (hts _ k_83) rfl rfl rfl d_Dr_divide_11 (fun H locs hI => ?_)
    refine fh_aload_n S d_Dr_divide_14 rfl (lv_at hl 0 rfl) ?_
    refine lv_lload_n hx hb d_Dr_divide_15 rfl (lv_at hl 2 rfl) ?_
    obtain ⟨r3, e_r3, hf⟩ := fh_b hf
    refine fh_callSN (As := [.long a3]) (rest := [va_rf (some o)]) S fT_good hE hI (c_FF_invert e_r3) fy_FF_invert fst_FF_invert kn_5 ⟨rfl, rfl⟩ ⟨Nat.le_of_ble_eq_true rfl, Nat.le_of_ble_eq_true rfl⟩ ⟨Nat.zero_le _, Nat.zero_le _⟩ rfl hl.1 rfl (Nat.le_of_ble_eq_true rfl) d_Dr_divide_16 (fun H locs hI => ?_)
    obtain ⟨h4, e_h4, hf⟩ := fh_b hf
    refine fh_putv S hE.1 hI e_h4 (hc := rfl) (hin := in_3) tok_3 nok_3 (by decide) (hts _ k_84) rfl rfl rfl d_Dr_divide_19 (fun H locs hI => ?_)
    exact B22 a1 h4 _ _ _ (lv_sub hl [0, 1] rfl) hI hf
theorem d_Dr_giveNumbers_0 : decode c0_Dr_giveNumbers 0 = .ok (.aload_n 0, 1) := by decide +kernel
theorem d_Dr_giveNumbers_1 : decode c0_Dr_giveNumbers 1 = .ok (.iload_n 1, 1) := by decide +kernel
theorem d_Dr_giveNumbers_2 : decode c0_Dr_giveNumbers 2 = .ok (.invokevirtual 54, 3) := by decide +kernel
theorem d_Dr_giveNumbers_5 : decode c0_Dr_giveNumbers 5 = .ok (.astore_n 2, 1) := by decide +kernel
theorem d_Dr_giveNumbers_6 : decode c0_Dr_giveNumbers 6 = .ok (.aload_n 2, 1) := by decide +kernel
theorem d_Dr_giveNumbers_7 : decode c0_Dr_giveNumbers 7 = .ok (.ifnonnull 21, 3) := by decide +kernel
theorem d_Dr_giveNumbers_10 : decode c0_Dr_giveNumbers 10 = .ok (.aload_n 0, 1) := by decide +kernel
theorem d_Dr_giveNumbers_11 : decode c0_Dr_giveNumbers 11 = .ok (.getfield 33, 3) := by decide +kernel
theorem d_Dr_giveNumbers_14 : decode c0_Dr_giveNumbers 14 = .ok (.ifCond .le 12, 3) := by decide +kernel
theorem d_Dr_giveNumbers_17 : decode c0_Dr_giveNumbers 17 = .ok (.iload_n 1, 1) := by decide +kernel
theorem d_Dr_giveNumbers_18 : decode c0_Dr_giveNumbers 18 = .ok (.iconst 1, 1) := by decide +kernel
theorem d_Dr_giveNumbers_19 : decode c0_Dr_giveNumbers 19 = .ok (.iconst 2, 1) := by decide +kernel
theorem d_Dr_giveNumbers_20 : decode c0_Dr_giveNumbers 20 = .ok (.invokestatic 58, 3) := by decide +kernel
theorem d_Dr_giveNumbers_23 : decode c0_Dr_giveNumbers 23 = .ok (.goto 4, 3) := by decide +kernel
theorem d_Dr_giveNumbers_26 : decode c0_Dr_giveNumbers 26 = .ok (.iconst 0, 1) := by decide +kernel
theorem d_Dr_giveNumbers_27 : decode c0_Dr_giveNumbers 27 = .ok (.ireturn, 1) := by decide +kernel
theorem d_Dr_giveNumbers_28 : decode c0_Dr_giveNumbers 28 = .ok (.aload_n 2, 1) := by decide +kernel
theorem d_Dr_giveNumbers_29 : decode c0_Dr_giveNumbers 29 = .ok (.iload_n 1, 1) := by decide +kernel
theorem d_Dr_giveNumbers_30 : decode c0_Dr_giveNumbers 30 = .ok (.iconst 0, 1) := by decide +kernel
theorem d_Dr_giveNumbers_31 : decode c0_Dr_giveNumbers 31 = .ok (.invokestatic 62, 3) := by decide +kernel
theorem d_Dr_giveNumbers_34 : decode c0_Dr_giveNumbers 34 = .ok (.iload_n 1, 1) := by decide +kernel
theorem d_Dr_giveNumbers_35 : decode c0_Dr_giveNumbers 35 = .ok (.iconst 1, 1) := by decide +kernel
theorem d_Dr_giveNumbers_36 : decode c0_Dr_giveNumbers 36 = .ok (.invokestatic 62, 3) := by decide +kernel
theorem d_Dr_giveNumbers_39 : decode c0_Dr_giveNumbers 39 = .ok (.invokevirtual 66, 3) := by decide +kernel
theorem d_Dr_giveNumbers_42 : decode c0_Dr_giveNumbers 42 = .ok (.lstore_n 3, 1) := by decide +kernel
theorem d_Dr_giveNumbers_43 : decode c0_Dr_giveNumbers 43 = .ok (.aload_n 2, 1) := by decide +kernel
theorem d_Dr_giveNumbers_44 : decode c0_Dr_giveNumbers 44 = .ok (.iload_n 1, 1) := by decide +kernel
theorem d_Dr_giveNumbers_45 : decode c0_Dr_giveNumbers 45 = .ok (.iconst 2, 1) := by decide +kernel
theorem d_Dr_giveNumbers_46 : decode c0_Dr_giveNumbers 46 = .ok (.invokestatic 62, 3) := by decide +kernel
theorem d_Dr_giveNumbers_49 : decode c0_Dr_giveNumbers 49 = .ok (.iload_n 1, 1) := by decide +kernel
theorem d_Dr_giveNumbers_50 : decode c0_Dr_giveNumbers 50 = .ok (.iconst 3, 1) := by decide +kernel
theorem d_Dr_giveNumbers_51 : decode c0_Dr_giveNumbers 51 = .ok (.invokestatic 62, 3) := by decide +kernel
theorem d_Dr_giveNumbers_54 : decode c0_Dr_giveNumbers 54 = .ok (.invokevirtual 66, 3) := by decide +kernel
theorem d_Dr_giveNumbers_57 : decode c0_Dr_giveNumbers 57 = .ok (.lstore 5, 2) := by decide +kernel
theorem d_Dr_giveNumbers_59 : decode c0_Dr_giveNumbers 59 = .ok (.lload_n 3, 1) := by decide +kernel
theorem d_Dr_giveNumbers_60 : decode c0_Dr_giveNumbers 60 = .ok (.lconst 0, 1) := by decide +kernel
theorem d_Dr_giveNumbers_61 : decode c0_Dr_giveNumbers 61 = .ok (.lcmp, 1) := by decide +kernel
theorem d_Dr_giveNumbers_62 : decode c0_Dr_giveNumbers 62 = .ok (.ifCond .eq 10, 3) := by decide +kernel
theorem d_Dr_giveNumbers_65 : decode c0_Dr_giveNumbers 65 = .ok (.lload 5, 2) := by decide +kernel
theorem d_Dr_giveNumbers_67 : decode c0_Dr_giveNumbers 67 = .ok (.lconst 0, 1) := by decide +kernel
theorem d_Dr_giveNumbers_68 : decode c0_Dr_giveNumbers 68 = .ok (.lcmp, 1) := by decide +kernel
theorem d_Dr_giveNumbers_69 : decode c0_Dr_giveNumbers 69 = .ok (.ifCond .ne 5, 3) := by decide +kernel
theorem d_Dr_giveNumbers_72 : decode c0_Dr_giveNumbers 72 = .ok (.iconst 0, 1) := by decide +kernel
theorem d_Dr_giveNumbers_73 : decode c0_Dr_giveNumbers 73 = .ok (.ireturn, 1) := by decide +kernel
theorem d_Dr_giveNumbers_74 : decode c0_Dr_giveNumbers 74 = .ok (.aload_n 0, 1) := by decide +kernel
theorem d_Dr_giveNumbers_75 : decode c0_Dr_giveNumbers 75 = .ok (.lload 5, 2) := by decide +kernel
theorem d_Dr_giveNumbers_77 : decode c0_Dr_giveNumbers 77 = .ok (.lload_n 3, 1) := by decide +kernel
theorem d_Dr_giveNumbers_78 : decode c0_Dr_giveNumbers 78 = .ok (.invokevirtual 70, 3) := by decide +kernel
theorem d_Dr_giveNumbers_81 : decode c0_Dr_giveNumbers 81 = .ok (.lstore 7, 2) := by decide +kernel
theorem d_Dr_giveNumbers_83 : decode c0_Dr_giveNumbers 83 = .ok (.iconst 1, 1) := by decide +kernel
theorem d_Dr_giveNumbers_84 : decode c0_Dr_giveNumbers 84 = .ok (.istore 9, 2) := by decide +kernel
theorem d_Dr_giveNumbers_86 : decode c0_Dr_giveNumbers 86 = .ok (.iload 9, 2) := by decide +kernel
theorem d_Dr_giveNumbers_88 : decode c0_Dr_giveNumbers 88 = .ok (.bipush 9, 2) := by decide +kernel
theorem d_Dr_giveNumbers_90 : decode c0_Dr_giveNumbers 90 = .ok (.if_icmp .gt 68, 3) := by decide +kernel
theorem d_Dr_giveNumbers_93 : decode c0_Dr_giveNumbers 93 = .ok (.lload 7, 2) := by decide +kernel
theorem d_Dr_giveNumbers_95 : decode c0_Dr_giveNumbers 95 = .ok (.iload 9, 2) := by decide +kernel
theorem d_Dr_giveNumbers_97 : decode c0_Dr_giveNumbers 97 = .ok (.i2l, 1) := by decide +kernel
theorem d_Dr_giveNumbers_98 : decode c0_Dr_giveNumbers 98 = .ok (.lmul, 1) := by decide +kernel
theorem d_Dr_giveNumbers_99 : decode c0_Dr_giveNumbers 99 = .ok (.ldc2_w 74, 3) := by decide +kernel
theorem d_Dr_giveNumbers_102 : decode c0_Dr_giveNumbers 102 = .ok (.lrem, 1) := by decide +kernel
theorem d_Dr_giveNumbers_103 : decode c0_Dr_giveNumbers 103 = .ok (.lstore 10, 2) := by decide +kernel
theorem d_Dr_giveNumbers_105 : decode c0_Dr_giveNumbers 105 = .ok (.lload 10, 2) := by decide +kernel
theorem d_Dr_giveNumbers_107 : decode c0_Dr_giveNumbers 107 = .ok (.ldc2_w 76, 3) := by decide +kernel
theorem d_Dr_giveNumbers_110 : decode c0_Dr_giveNumbers 110 = .ok (.lcmp, 1) := by decide +kernel
theorem d_Dr_giveNumbers_111 : decode c0_Dr_giveNumbers 111 = .ok (.ifCond .gt 41, 3) := by decide +kernel
theorem d_Dr_giveNumbers_114 : decode c0_Dr_giveNumbers 114 = .ok (.lload 10, 2) := by decide +kernel
theorem d_Dr_giveNumbers_116 : decode c0_Dr_giveNumbers 116 = .ok (.iload 9, 2) := by decide +kernel
theorem d_Dr_giveNumbers_118 : decode c0_Dr_giveNumbers 118 = .ok (.i2l, 1) := by decide +kernel
theorem d_Dr_giveNumbers_119 : decode c0_Dr_giveNumbers 119 = .ok (.lcmp, 1) := by decide +kernel
theorem d_Dr_giveNumbers_120 : decode c0_Dr_giveNumbers 120 = .ok (.ifCond .eq 32, 3) := by decide +kernel
theorem d_Dr_giveNumbers_123 : decode c0_Dr_giveNumbers 123 = .ok (.iload_n 1, 1) := by decide +kernel
theorem d_Dr_giveNumbers_124 : decode c0_Dr_giveNumbers 124 = .ok (.lload 10, 2) := by decide +kernel
theorem d_Dr_giveNumbers_126 : decode c0_Dr_giveNumbers 126 = .ok (.l2i, 1) := by decide +kernel
theorem d_Dr_giveNumbers_127 : decode c0_Dr_giveNumbers 127 = .ok (.iload 9, 2) := by decide +kernel
theorem d_Dr_giveNumbers_129 : decode c0_Dr_giveNumbers 129 = .ok (.invokestatic 58, 3) := by decide +kernel
theorem d_Dr_giveNumbers_132 : decode c0_Dr_giveNumbers 132 = .ok (.istore 12, 2) := by decide +kernel
theorem d_Dr_giveNumbers_134 : decode c0_Dr_giveNumbers 134 = .ok (.aload_n 0, 1) := by decide +kernel
theorem d_Dr_giveNumbers_135 : decode c0_Dr_giveNumbers 135 = .ok (.bipush 8, 2) := by decide +kernel
theorem d_Dr_giveNumbers_137 : decode c0_Dr_giveNumbers 137 = .ok (.iload 12, 2) := by decide +kernel
theorem d_Dr_giveNumbers_139 : decode c0_Dr_giveNumbers 139 = .ok (.invokevirtual 47, 3) := by decide +kernel
theorem d_Dr_giveNumbers_142 : decode c0_Dr_giveNumbers 142 = .ok (.ifCond .eq 8, 3) := by decide +kernel
theorem d_Dr_giveNumbers_145 : decode c0_Dr_giveNumbers 145 = .ok (.iload 12, 2) := by decide +kernel
theorem d_Dr_giveNumbers_147 : decode c0_Dr_giveNumbers 147 = .ok (.goto 4, 3) := by decide +kernel
theorem d_Dr_giveNumbers_150 : decode c0_Dr_giveNumbers 150 = .ok (.iconst 0, 1) := by decide +kernel
theorem d_Dr_giveNumbers_151 : decode c0_Dr_giveNumbers 151 = .ok (.ireturn, 1) := by decide +kernel
theorem d_Dr_giveNumbers_152 : decode c0_Dr_giveNumbers 152 = .ok (.iinc 9 1, 3) := by decide +kernel
theorem d_Dr_giveNumbers_155 : decode c0_Dr_giveNumbers 155 = .ok (.goto (-69), 3) := by decide +kernel
theorem d_Dr_giveNumbers_158 : decode c0_Dr_giveNumbers 158 = .ok (.iconst 0, 1) := by decide +kernel
theorem d_Dr_giveNumbers_159 : decode c0_Dr_giveNumbers 159 = .ok (.ireturn, 1) := by decide +kernel
def b_Dr_giveNumbers_152 (K : Nat → ClassId) (N : Nat) (k86 : Int32 → Int64 → Int32 → fh_H → Option (Int32 × fh_H)) (o : Nat) (v1 : Int32) (v7 : Int64) (v9 : Int32) (h : fh_H) : Option (Int32 × fh_H) :=
  (some (v9 + 1)).bind fun x1 => k86 v1 v7 x1 h
def b_Dr_giveNumbers_86 (K : Nat → ClassId) (N : Nat) (k86 : Int32 → Int64 → Int32 → fh_H → Option (Int32 × fh_H)) (o : Nat) (v1 : Int32) (v7 : Int64) (v9 : Int32) (h : fh_H) : Option (Int32 × fh_H) :=
  if 9 < v9 then (some (0, h)) else ((some (fr_l (v7 * v9.toInt64) 1000003)).bind fun x1 => if 0 < (lg_cmp x1 9) then (b_Dr_giveNumbers_152 K N k86 o v1 v7 v9 h) else (if (lg_cmp x1 v9.toInt64) = 0 then (b_Dr_giveNumbers_152 K N k86 o v1 v7 v9 h) else ((f_Dr_withNumbers K N v1 x1.toInt32 v9 h).bind fun r2 => (fg_o r2.2 (some o) 3).bind fun o3 => (f_Dr_isShown K N o3 8 r2.1 r2.2).bind fun r4 => if r4.1 = 0 then (some (0, r4.2)) else (some (r2.1, r4.2)))))
def l_Dr_giveNumbers_86 (K : Nat → ClassId) (N : Nat) (o : Nat) : Nat → Int32 → Int64 → Int32 → fh_H → Option (Int32 × fh_H)
  | 0, _, _, _, _ => none
  | n + 1, v1, v7, v9, h => b_Dr_giveNumbers_86 K N (l_Dr_giveNumbers_86 K N o n) o v1 v7 v9 h
def f_Dr_giveNumbers (K : Nat → ClassId) (N : Nat) (o : Nat) (a1 : Int32) (h0 : fh_H) : Option (Int32 × fh_H) :=
  (fg_o h0 (some o) 3).bind fun o1 => (f_Dr_firstWithLength K N o1 a1 h0).bind fun r2 => if r2.1 = none then ((fg_i r2.2 (some o) 3 1).bind fun x13 => if x13 ≤ 0 then (some (0, r2.2)) else ((f_Dr_withNumbers K N a1 1 2 r2.2).bind fun r14 => some (r14.1, r14.2))) else ((f_FF_unpack K N a1 0 r2.2).bind fun r3 => (f_FF_unpack K N a1 1 r3.2).bind fun r4 => (fg_o r4.2 r2.1 4).bind fun o5 => (f_Fi_length K N o5 r3.1 r4.1 r4.2).bind fun r6 => (f_FF_unpack K N a1 2 r6.2).bind fun r7 => (f_FF_unpack K N a1 3 r7.2).bind fun r8 => (fg_o r8.2 r2.1 4).bind fun o9 => (f_Fi_length K N o9 r7.1 r8.1 r8.2).bind fun r10 => if (lg_cmp r6.1 0) = 0 then (some (0, r10.2)) else (if (lg_cmp r10.1 0) = 0 then (some (0, r10.2)) else ((fg_o r10.2 (some o) 3).bind fun o11 => (f_Dr_divide K N o11 r10.1 r6.1 r10.2).bind fun r12 => l_Dr_giveNumbers_86 K N o N a1 r12.1 1 r12.2)))
set_option maxHeartbeats 4000000 in
set_option maxRecDepth 100000 in
theorem c_Dr_giveNumbers {l : Launch} {D : va_G} {K : Nat → ClassId} {t : Nat → Nat} {N : Nat} {o : Nat} {a1 : Int32} {h0 : fh_H} {res : Int32 × fh_H} (hf : f_Dr_giveNumbers K N o a1 h0 = some res) : fC l D K t y_Dr_giveNumbers c0_Dr_giveNumbers 13 (some .int) rm_Dr_giveNumbers [.ref o, .int a1] h0 (some (.int res.1)) res.2 := by
  refine fh_body (by decide) (Nat.le_of_ble_eq_true rfl) ?_
  intro p e s m below meth c A ls S hr hk hnm hE hAe hI hl
  obtain ⟨hx, hb, hml, hown, hts⟩ := id S
  have hl : lv_has ls 13 [(0, va_rf (some o)), (1, .int a1)] := hl
  have L86 : ∀ (n86 : Nat) (v1 : Int32) (v7 : Int64) (v9 : Int32) (h : fh_H) (H : Heap) (locs : List Loc) (ls : Array Slot), lv_has ls 13 [(0, va_rf (some o)), (1, .int v1), (7, .long v7), (9, .int v9)] → fh_I D classes A s.heap h H locs → l_Dr_giveNumbers_86 K N o n86 v1 v7 v9 h = some res → W p l e rm_Dr_giveNumbers s m [.ref o, .int a1].toArray below meth c H locs 0 0 (MQ below (fh_Q D classes h0 s.heap.size (some (.int res.1)) res.2) [.ref o, .int a1].toArray s 0 0 A) (F0 m 86 ls []) := by
    intro n86
    induction n86 with
    | zero =>
      intro v1 v7 v9 h H locs ls hl hI hf
      exact fh_no hf
    | succ n86 ih86 =>
      have B152 : ∀ (v1 : Int32) (v7 : Int64) (v9 : Int32) (h : fh_H) (H : Heap) (locs : List Loc) (ls : Array Slot), lv_has ls 13 [(0, va_rf (some o)), (1, .int v1), (7, .long v7), (9, .int v9)] → fh_I D classes A s.heap h H locs → b_Dr_giveNumbers_152 K N (l_Dr_giveNumbers_86 K N o n86) o v1 v7 v9 h = some res → W p l e rm_Dr_giveNumbers s m [.ref o, .int a1].toArray below meth c H locs 0 0 (MQ below (fh_Q D classes h0 s.heap.size (some (.int res.1)) res.2) [.ref o, .int a1].toArray s 0 0 A) (F0 m 152 ls []) := by
        intro v1 v7 v9 h H locs ls hl hI hf
        unfold b_Dr_giveNumbers_152 at hf
        obtain ⟨x1, e_x1, hf⟩ := fh_b hf
        refine lv_iinc (v := x1) (lv' := [(9, .int x1), (0, va_rf (some o)), (1, .int v1), (7, .long v7)]) hx hb d_Dr_giveNumbers_152 hl (k := 3) rfl (by rw [fh_qe e_x1]; rfl) (by decide) rfl (fun ls hl => ?_)
        refine lv_goto (tgt := 86) hx hb d_Dr_giveNumbers_155 (by decide) ?_
        exact ih86 v1 v7 x1 h _ _ _ (lv_sub hl [1, 2, 3, 0] rfl) hI hf
      intro v1 v7 v9 h H locs ls hl hI hf
      have hf : b_Dr_giveNumbers_86 K N (l_Dr_giveNumbers_86 K N o n86) o v1 v7 v9 h = some res := hf
      unfold b_Dr_giveNumbers_86 at hf
      refine lv_iload hx hb d_Dr_giveNumbers_86 (lv_at hl 3 rfl) ?_
      refine lv_bipush (v := 9) hx hb d_Dr_giveNumbers_88 (by decide) ?_
      refine lv_icmp_gt (tgt := 158) hx hb d_Dr_giveNumbers_90 (by decide) (fun c_90 => ?_) (fun c_90 => ?_)
      · replace hf := fh_t c_90 hf
        refine lv_iconst (v := 0) hx hb d_Dr_giveNumbers_158 (by decide) ?_
        obtain rfl := Option.some.inj hf
        exact fh_iret S hr hk rfl hAe hI d_Dr_giveNumbers_159
      · replace hf := fh_f c_90 hf
        refine lv_lload hx hb d_Dr_giveNumbers_93 (lv_at hl 2 rfl) ?_
        refine lv_iload hx hb d_Dr_giveNumbers_95 (lv_at hl 3 rfl) ?_
        refine lv_i2l hx hb d_Dr_giveNumbers_97 rfl ?_
        refine lv_lmul hx hb d_Dr_giveNumbers_98 ?_
        refine lv_ldc2 hx hb hown (hts _ k_85) d_Dr_giveNumbers_99 ?_
        refine fh_lrem S d_Dr_giveNumbers_102 (by decide) ?_
        obtain ⟨x1, e_x1, hf⟩ := fh_b hf
        refine fh_topl e_x1 ?_
        refine lv_lstore (lv' := [(10, .long x1), (0, va_rf (some o)), (1, .int v1), (7, .long v7), (9, .int v9)]) hx hb d_Dr_giveNumbers_103 hl (by decide) rfl (fun ls hl => ?_)
        refine lv_lload hx hb d_Dr_giveNumbers_105 (lv_at hl 0 rfl) ?_
        refine lv_ldc2 hx hb hown (hts _ k_90) d_Dr_giveNumbers_107 ?_
        refine W.lcmp hx hb d_Dr_giveNumbers_110 ?_
        refine lv_if_gt (tgt := 152) hx hb d_Dr_giveNumbers_111 (by decide) (fun c_111 => ?_) (fun c_111 => ?_)
        · replace hf := fh_t c_111 hf
          exact B152 v1 v7 v9 h _ _ _ (lv_sub hl [1, 2, 3, 4] rfl) hI hf
        · replace hf := fh_f c_111 hf
          refine lv_lload hx hb d_Dr_giveNumbers_114 (lv_at hl 0 rfl) ?_
          refine lv_iload hx hb d_Dr_giveNumbers_116 (lv_at hl 4 rfl) ?_
          refine lv_i2l hx hb d_Dr_giveNumbers_118 rfl ?_
          refine W.lcmp hx hb d_Dr_giveNumbers_119 ?_
          refine lv_if_eq (tgt := 152) hx hb d_Dr_giveNumbers_120 (by decide) (fun c_120 => ?_) (fun c_120 => ?_)
          · replace hf := fh_t c_120 hf
            exact B152 v1 v7 v9 h _ _ _ (lv_sub hl [1, 2, 3, 4] rfl) hI hf
          · replace hf := fh_f c_120 hf
            refine lv_iload_n hx hb d_Dr_giveNumbers_123 rfl (lv_at hl 2 rfl) ?_
            refine lv_lload hx hb d_Dr_giveNumbers_124 (lv_at hl 0 rfl) ?_
            refine lv_l2i hx hb d_Dr_giveNumbers_126 rfl ?_
            refine lv_iload hx hb d_Dr_giveNumbers_127 (lv_at hl 4 rfl) ?_
            obtain ⟨r2, e_r2, hf⟩ := fh_b hf
            refine fh_callS (As := [.int v1, .int x1.toInt32, .int v9]) (rest := []) S fT_good hE hI (c_Dr_withNumbers e_r2) fy_Dr_withNumbers fst_Dr_withNumbers k_87 ⟨rfl, rfl⟩ ⟨Nat.le_of_ble_eq_true rfl, Nat.le_of_ble_eq_true rfl⟩ ⟨Nat.zero_le _, Nat.zero_le _⟩ rfl hl.1 rfl (Nat.le_of_ble_eq_true rfl) d_Dr_giveNumbers_129 (fun H locs hI => ?_)
            refine lv_istore (lv' := [(12, .int r2.1), (10, .long x1), (0, va_rf (some o)), (1, .int v1), (7, .long v7), (9, .int v9)]) hx hb d_Dr_giveNumbers_132 hl (by decide) rfl (fun ls hl => ?_)
            refine fh_aload_n S d_Dr_giveNumbers_134 rfl (lv_at hl 2 rfl) ?_
            refine lv_bipush (v := 8) hx hb d_Dr_giveNumbers_135 (by decide) ?_
            refine lv_iload hx hb d_Dr_giveNumbers_137 (lv_at hl 0 rfl) ?_
            obtain ⟨o3, e_o3, hf⟩ := fh_b hf
            obtain ⟨r4, e_r4, hf⟩ := fh_b hf
            refine fh_callV (As := [.int 8, .int r2.1]) (rest := []) S fT_good hE hI e_o3 rfl (c_Dr_isShown e_r4) fy_Dr_isShown fst_Dr_isShown k_89 ⟨rfl, rfl⟩ ⟨Nat.le_of_ble_eq_true rfl, Nat.le_of_ble_eq_true rfl⟩ ⟨Nat.zero_le _, Nat.zero_le _⟩ rfl hl.1 rfl (Nat.le_of_ble_eq_true rfl) d_Dr_giveNumbers_139 (fun H locs hI => ?_)
            refine lv_if_eq (tgt := 150) hx hb d_Dr_giveNumbers_142 (by decide) (fun c_142 => ?_) (fun c_142 => ?_)
            · replace hf := fh_t c_142 hf
              refine lv_iconst (v := 0) hx hb d_Dr_giveNumbers_150 (by decide) ?_
              obtain rfl := Option.some.inj hf
              exact fh_iret S hr hk rfl hAe hI d_Dr_giveNumbers_151
            · replace hf := fh_f c_142 hf
              refine lv_iload hx hb d_Dr_giveNumbers_145 (lv_at hl 0 rfl) ?_
              refine lv_goto (tgt := 151) hx hb d_Dr_giveNumbers_147 (by decide) ?_
              obtain rfl := Option.some.inj hf
              exact fh_iret S hr hk rfl hAe hI d_Dr_giveNumbers_151
  unfold f_Dr_giveNumbers at hf
  refine fh_aload_n S d_Dr_giveNumbers_0 rfl (lv_at hl 0 rfl) ?_
  refine lv_iload_n hx hb d_Dr_giveNumbers_1 rfl (lv_at hl 1 rfl) ?_
  obtain ⟨o1, e_o1, hf⟩ := fh_b hf
  obtain ⟨r2, e_r2, hf⟩ := fh_b hf
  refine fh_callV (As := [.int a1]) (rest := []) S fT_good hE hI e_o1 rfl (c_Dr_firstWithLength e_r2) fy_Dr_firstWithLength fst_Dr_firstWithLength k_86 ⟨rfl, rfl⟩ ⟨Nat.le_of_ble_eq_true rfl, Nat.le_of_ble_eq_true rfl⟩ ⟨Nat.zero_le _, Nat.zero_le _⟩ rfl hl.1 rfl (Nat.le_of_ble_eq_true rfl) d_Dr_giveNumbers_2 (fun H locs hI => ?_)
  refine fh_astore_n (lv' := [(2, va_rf r2.1), (0, va_rf (some o)), (1, .int a1)]) S d_Dr_giveNumbers_5 rfl hl (by decide) rfl (fun ls hl => ?_)
  refine fh_aload_n S d_Dr_giveNumbers_6 rfl (lv_at hl 0 rfl) ?_
  refine fh_ifnonnull (tgt := 28) S d_Dr_giveNumbers_7 (by decide) (fun c_7 => ?_) (fun c_7 => ?_)
  · replace hf := fh_f c_7 hf
    refine fh_aload_n S d_Dr_giveNumbers_28 rfl (lv_at hl 0 rfl) ?_
    refine lv_iload_n hx hb d_Dr_giveNumbers_29 rfl (lv_at hl 2 rfl) ?_
    refine lv_iconst (v := 0) hx hb d_Dr_giveNumbers_30 (by decide) ?_
    obtain ⟨r3, e_r3, hf⟩ := fh_b hf
    refine fh_callSN (As := [.int a1, .int 0]) (rest := [va_rf r2.1]) S fT_good hE hI (c_FF_unpack e_r3) fy_FF_unpack fst_FF_unpack kn_4 ⟨rfl, rfl⟩ ⟨Nat.le_of_ble_eq_true rfl, Nat.le_of_ble_eq_true rfl⟩ ⟨Nat.zero_le _, Nat.zero_le _⟩ rfl hl.1 rfl (Nat.le_trans (fh_cat _) (Nat.le_of_ble_eq_true rfl)) d_Dr_giveNumbers_31 (fun H locs hI => ?_)
    refine lv_iload_n hx hb d_Dr_giveNumbers_34 rfl (lv_at hl 2 rfl) ?_
    refine lv_iconst (v := 1) hx hb d_Dr_giveNumbers_35 (by decide) ?_
    obtain ⟨r4, e_r4, hf⟩ := fh_b hf
    refine fh_callSN (As := [.int a1, .int 1]) (rest := [.int r3.1, va_rf r2.1]) S fT_good hE hI (c_FF_unpack e_r4) fy_FF_unpack fst_FF_unpack kn_4 ⟨rfl, rfl⟩ ⟨Nat.le_of_ble_eq_true rfl, Nat.le_of_ble_eq_true rfl⟩ ⟨Nat.zero_le _, Nat.zero_le _⟩ rfl hl.1 rfl (Nat.le_trans (fh_cat _) (Nat.le_of_ble_eq_true rfl)) d_Dr_giveNumbers_36 (fun H locs hI => ?_)
    obtain ⟨o5, e_o5, hf⟩ := fh_b hf
    obtain ⟨r6, e_r6, hf⟩ := fh_b hf
    refine fh_callV (As := [.int r3.1, .int r4.1]) (rest := []) S fT_good hE hI e_o5 rfl (c_Fi_length e_r6) fy_Fi_length fst_Fi_length k_81 ⟨rfl, rfl⟩ ⟨Nat.le_of_ble_eq_true rfl, Nat.le_of_ble_eq_true rfl⟩ ⟨Nat.zero_le _, Nat.zero_le _⟩ rfl hl.1 rfl (Nat.le_of_ble_eq_true rfl) d_Dr_giveNumbers_39 (fun H locs hI => ?_)
    refine lv_lstore_n (lv' := [(3, .long r6.1), (2, va_rf r2.1), (0, va_rf (some o)), (1, .int a1)]) hx hb d_Dr_giveNumbers_42 rfl hl (by decide) (by generalize r2.1 = zz; cases zz <;> rfl) (fun ls hl => ?_)
    refine fh_aload_n S d_Dr_giveNumbers_43 rfl (lv_at hl 1 rfl) ?_
    refine lv_iload_n hx hb d_Dr_giveNumbers_44 rfl (lv_at hl 3 rfl) ?_
    refine lv_iconst (v := 2) hx hb d_Dr_giveNumbers_45 (by decide) ?_
    obtain ⟨r7, e_r7, hf⟩ := fh_b hf
    refine fh_callSN (As := [.int a1, .int 2]) (rest := [va_rf r2.1]) S fT_good hE hI (c_FF_unpack e_r7) fy_FF_unpack fst_FF_unpack kn_4 ⟨rfl, rfl⟩ ⟨Nat.le_of_ble_eq_true rfl, Nat.le_of_ble_eq_true rfl⟩ ⟨Nat.zero_le _, Nat.zero_le _⟩ rfl hl.1 rfl (Nat.le_trans (fh_cat _) (Nat.le_of_ble_eq_true rfl)) d_Dr_giveNumbers_46 (fun H locs hI => ?_)
    refine lv_iload_n hx hb d_Dr_giveNumbers_49 rfl (lv_at hl 3 rfl) ?_
    refine lv_iconst (v := 3) hx hb d_Dr_giveNumbers_50 (by decide) ?_
    obtain ⟨r8, e_r8, hf⟩ := fh_b hf
    refine fh_callSN (As := [.int a1, .int 3]) (rest := [.int r7.1, va_rf r2.1]) S fT_good hE hI (c_FF_unpack e_r8) fy_FF_unpack fst_FF_unpack kn_4 ⟨rfl, rfl⟩ ⟨Nat.le_of_ble_eq_true rfl, Nat.le_of_ble_eq_true rfl⟩ ⟨Nat.zero_le _, Nat.zero_le _⟩ rfl hl.1 rfl (Nat.le_trans (fh_cat _) (Nat.le_of_ble_eq_true rfl)) d_Dr_giveNumbers_51 (fun H locs hI => ?_)
    obtain ⟨o9, e_o9, hf⟩ := fh_b hf
    obtain ⟨r10, e_r10, hf⟩ := fh_b hf
    refine fh_callV (As := [.int r7.1, .int r8.1]) (rest := []) S fT_good hE hI e_o9 rfl (c_Fi_length e_r10) fy_Fi_length fst_Fi_length k_81 ⟨rfl, rfl⟩ ⟨Nat.le_of_ble_eq_true rfl, Nat.le_of_ble_eq_true rfl⟩ ⟨Nat.zero_le _, Nat.zero_le _⟩ rfl hl.1 rfl (Nat.le_of_ble_eq_true rfl) d_Dr_giveNumbers_54 (fun H locs hI => ?_)
    refine lv_lstore (lv' := [(5, .long r10.1), (3, .long r6.1), (2, va_rf r2.1), (0, va_rf (some o)), (1, .int a1)]) hx hb d_Dr_giveNumbers_57 hl (by decide) rfl (fun ls hl => ?_)
    refine lv_lload_n hx hb d_Dr_giveNumbers_59 rfl (lv_at hl 1 rfl) ?_
    refine lv_lconst (v := 0) hx hb d_Dr_giveNumbers_60 (by decide) ?_
    refine W.lcmp hx hb d_Dr_giveNumbers_61 ?_
    refine lv_if_eq (tgt := 72) hx hb d_Dr_giveNumbers_62 (by decide) (fun c_62 => ?_) (fun c_62 => ?_)
    · replace hf := fh_t c_62 hf
      refine lv_iconst (v := 0) hx hb d_Dr_giveNumbers_72 (by decide) ?_
      obtain rfl := Option.some.inj hf
      exact fh_iret S hr hk rfl hAe hI d_Dr_giveNumbers_73
    · replace hf := fh_f c_62 hf
      refine lv_lload hx hb d_Dr_giveNumbers_65 (lv_at hl 0 rfl) ?_
      refine lv_lconst (v := 0) hx hb d_Dr_giveNumbers_67 (by decide) ?_
      refine W.lcmp hx hb d_Dr_giveNumbers_68 ?_
      refine lv_if_ne (tgt := 74) hx hb d_Dr_giveNumbers_69 (by decide) (fun c_69 => ?_) (fun c_69 => ?_)
      · replace hf := fh_f c_69 hf
        refine fh_aload_n S d_Dr_giveNumbers_74 rfl (lv_at hl 3 rfl) ?_
        refine lv_lload hx hb d_Dr_giveNumbers_75 (lv_at hl 0 rfl) ?_
        refine lv_lload_n hx hb d_Dr_giveNumbers_77 rfl (lv_at hl 1 rfl) ?_
        obtain ⟨o11, e_o11, hf⟩ := fh_b hf
        obtain ⟨r12, e_r12, hf⟩ := fh_b hf
        refine fh_callV (As := [.long r10.1, .long r6.1]) (rest := []) S fT_good hE hI e_o11 rfl (c_Dr_divide e_r12) fy_Dr_divide fst_Dr_divide k_88 ⟨rfl, rfl⟩ ⟨Nat.le_of_ble_eq_true rfl, Nat.le_of_ble_eq_true rfl⟩ ⟨Nat.zero_le _, Nat.zero_le _⟩ rfl hl.1 rfl (Nat.le_of_ble_eq_true rfl) d_Dr_giveNumbers_78 (fun H locs hI => ?_)
        refine lv_lstore (lv' := [(7, .long r12.1), (5, .long r10.1), (3, .long r6.1), (2, va_rf r2.1), (0, va_rf (some o)), (1, .int a1)]) hx hb d_Dr_giveNumbers_81 hl (by decide) rfl (fun ls hl => ?_)
        refine lv_iconst (v := 1) hx hb d_Dr_giveNumbers_83 (by decide) ?_
        refine lv_istore (lv' := [(9, .int 1), (7, .long r12.1), (5, .long r10.1), (3, .long r6.1), (2, va_rf r2.1), (0, va_rf (some o)), (1, .int a1)]) hx hb d_Dr_giveNumbers_84 hl (by decide) rfl (fun ls hl => ?_)
        exact L86 N a1 r12.1 1 r12.2 _ _ _ (lv_sub hl [5, 6, 1, 0] rfl) hI hf
      · replace hf := fh_t c_69 hf
        refine lv_iconst (v := 0) hx hb d_Dr_giveNumbers_72 (by decide) ?_
        obtain rfl := Option.some.inj hf
        exact fh_iret S hr hk rfl hAe hI d_Dr_giveNumbers_73
  · replace hf := fh_t c_7 hf
    refine fh_aload_n S d_Dr_giveNumbers_10 rfl (lv_at hl 1 rfl) ?_
    obtain ⟨x13, e_x13, hf⟩ := fh_b hf
    refine fh_geti S hE.1 hI e_x13 (hc := rfl) (hin := in_3) (by decide) (hts _ k_37) d_Dr_giveNumbers_11 ?_
    refine lv_if_le (tgt := 26) hx hb d_Dr_giveNumbers_14 (by decide) (fun c_14 => ?_) (fun c_14 => ?_)
    · replace hf := fh_t c_14 hf
      refine lv_iconst (v := 0) hx hb d_Dr_giveNumbers_26 (by decide) ?_
      obtain rfl := Option.some.inj hf
      exact fh_iret S hr hk rfl hAe hI d_Dr_giveNumbers_27
    · replace hf := fh_f c_14 hf
      refine lv_iload_n hx hb d_Dr_giveNumbers_17 rfl (lv_at hl 2 rfl) ?_
      refine lv_iconst (v := 1) hx hb d_Dr_giveNumbers_18 (by decide) ?_
      refine lv_iconst (v := 2) hx hb d_Dr_giveNumbers_19 (by decide) ?_
      obtain ⟨r14, e_r14, hf⟩ := fh_b hf
      refine fh_callS (As := [.int a1, .int 1, .int 2]) (rest := []) S fT_good hE hI (c_Dr_withNumbers e_r14) fy_Dr_withNumbers fst_Dr_withNumbers k_87 ⟨rfl, rfl⟩ ⟨Nat.le_of_ble_eq_true rfl, Nat.le_of_ble_eq_true rfl⟩ ⟨Nat.zero_le _, Nat.zero_le _⟩ rfl hl.1 rfl (Nat.le_of_ble_eq_true rfl) d_Dr_giveNumbers_20 (fun H locs hI => ?_)
      refine lv_goto (tgt := 27) hx hb d_Dr_giveNumbers_23 (by decide) ?_
      obtain rfl := Option.some.inj hf
      exact fh_iret S hr hk rfl hAe hI d_Dr_giveNumbers_27
theorem d_Dr_bears_0 : decode c0_Dr_bears 0 = .ok (.iload_n 1, 1) := by decide +kernel
theorem d_Dr_bears_1 : decode c0_Dr_bears 1 = .ok (.bipush 8, 2) := by decide +kernel
theorem d_Dr_bears_3 : decode c0_Dr_bears 3 = .ok (.if_icmp .ne 19, 3) := by decide +kernel
theorem d_Dr_bears_6 : decode c0_Dr_bears 6 = .ok (.aload_n 0, 1) := by decide +kernel
theorem d_Dr_bears_7 : decode c0_Dr_bears 7 = .ok (.iload_n 2, 1) := by decide +kernel
theorem d_Dr_bears_8 : decode c0_Dr_bears 8 = .ok (.invokevirtual 43, 3) := by decide +kernel
theorem d_Dr_bears_11 : decode c0_Dr_bears 11 = .ok (.ifCond .eq 7, 3) := by decide +kernel
theorem d_Dr_bears_14 : decode c0_Dr_bears 14 = .ok (.iconst 1, 1) := by decide +kernel
theorem d_Dr_bears_15 : decode c0_Dr_bears 15 = .ok (.goto 13, 3) := by decide +kernel
theorem d_Dr_bears_18 : decode c0_Dr_bears 18 = .ok (.iconst 0, 1) := by decide +kernel
theorem d_Dr_bears_19 : decode c0_Dr_bears 19 = .ok (.goto 9, 3) := by decide +kernel
theorem d_Dr_bears_22 : decode c0_Dr_bears 22 = .ok (.aload_n 0, 1) := by decide +kernel
theorem d_Dr_bears_23 : decode c0_Dr_bears 23 = .ok (.iload_n 1, 1) := by decide +kernel
theorem d_Dr_bears_24 : decode c0_Dr_bears 24 = .ok (.iload_n 2, 1) := by decide +kernel
theorem d_Dr_bears_25 : decode c0_Dr_bears 25 = .ok (.invokevirtual 47, 3) := by decide +kernel
theorem d_Dr_bears_28 : decode c0_Dr_bears 28 = .ok (.ireturn, 1) := by decide +kernel
def f_Dr_bears (K : Nat → ClassId) (N : Nat) (o : Nat) (a1 : Int32) (a2 : Int32) (h0 : fh_H) : Option (Int32 × fh_H) :=
  if a1 = 8 then ((fg_o h0 (some o) 3).bind fun o3 => (f_Dr_giveNumbers K N o3 a2 h0).bind fun r4 => if r4.1 = 0 then (some (0, r4.2)) else (some (1, r4.2))) else ((fg_o h0 (some o) 3).bind fun o1 => (f_Dr_isShown K N o1 a1 a2 h0).bind fun r2 => fz r2.1 r2.2)
set_option maxHeartbeats 4000000 in
set_option maxRecDepth 100000 in
theorem c_Dr_bears {l : Launch} {D : va_G} {K : Nat → ClassId} {t : Nat → Nat} {N : Nat} {o : Nat} {a1 : Int32} {a2 : Int32} {h0 : fh_H} {res : Int32 × fh_H} (hf : f_Dr_bears K N o a1 a2 h0 = some res) : fC l D K t y_Dr_bears c0_Dr_bears 3 (some .boolean) rm_Dr_bears [.ref o, .int a1, .int a2] h0 (some (.int res.1)) res.2 := by
  refine fh_body (by decide) (Nat.le_of_ble_eq_true rfl) ?_
  intro p e s m below meth c A ls S hr hk hnm hE hAe hI hl
  obtain ⟨hx, hb, hml, hown, hts⟩ := id S
  have hl : lv_has ls 3 [(0, va_rf (some o)), (1, .int a1), (2, .int a2)] := hl
  unfold f_Dr_bears at hf
  refine lv_iload_n hx hb d_Dr_bears_0 rfl (lv_at hl 1 rfl) ?_
  refine lv_bipush (v := 8) hx hb d_Dr_bears_1 (by decide) ?_
  refine lv_icmp_ne (tgt := 22) hx hb d_Dr_bears_3 (by decide) (fun c_3 => ?_) (fun c_3 => ?_)
  · replace hf := fh_f c_3 hf
    refine fh_aload_n S d_Dr_bears_22 rfl (lv_at hl 0 rfl) ?_
    refine lv_iload_n hx hb d_Dr_bears_23 rfl (lv_at hl 1 rfl) ?_
    refine lv_iload_n hx hb d_Dr_bears_24 rfl (lv_at hl 2 rfl) ?_
    obtain ⟨o1, e_o1, hf⟩ := fh_b hf
    obtain ⟨r2, e_r2, hf⟩ := fh_b hf
    refine fh_callV (As := [.int a1, .int a2]) (rest := []) S fT_good hE hI e_o1 rfl (c_Dr_isShown e_r2) fy_Dr_isShown fst_Dr_isShown k_89 ⟨rfl, rfl⟩ ⟨Nat.le_of_ble_eq_true rfl, Nat.le_of_ble_eq_true rfl⟩ ⟨Nat.zero_le _, Nat.zero_le _⟩ rfl hl.1 rfl (Nat.le_of_ble_eq_true rfl) d_Dr_bears_25 (fun H locs hI => ?_)
    obtain ⟨hz, rfl⟩ := fz_s hf
    exact fh_iret S hr hk (fh_nb hz) hAe hI d_Dr_bears_28
  · replace hf := fh_t c_3 hf
    refine fh_aload_n S d_Dr_bears_6 rfl (lv_at hl 0 rfl) ?_
    refine lv_iload_n hx hb d_Dr_bears_7 rfl (lv_at hl 2 rfl) ?_
    obtain ⟨o3, e_o3, hf⟩ := fh_b hf
    obtain ⟨r4, e_r4, hf⟩ := fh_b hf
    refine fh_callV (As := [.int a2]) (rest := []) S fT_good hE hI e_o3 rfl (c_Dr_giveNumbers e_r4) fy_Dr_giveNumbers fst_Dr_giveNumbers k_91 ⟨rfl, rfl⟩ ⟨Nat.le_of_ble_eq_true rfl, Nat.le_of_ble_eq_true rfl⟩ ⟨Nat.zero_le _, Nat.zero_le _⟩ rfl hl.1 rfl (Nat.le_of_ble_eq_true rfl) d_Dr_bears_8 (fun H locs hI => ?_)
    refine lv_if_eq (tgt := 18) hx hb d_Dr_bears_11 (by decide) (fun c_11 => ?_) (fun c_11 => ?_)
    · replace hf := fh_t c_11 hf
      refine lv_iconst (v := 0) hx hb d_Dr_bears_18 (by decide) ?_
      refine lv_goto (tgt := 28) hx hb d_Dr_bears_19 (by decide) ?_
      obtain rfl := Option.some.inj hf
      exact fh_iret S hr hk (fh_nb (Or.inl rfl)) hAe hI d_Dr_bears_28
    · replace hf := fh_f c_11 hf
      refine lv_iconst (v := 1) hx hb d_Dr_bears_14 (by decide) ?_
      refine lv_goto (tgt := 28) hx hb d_Dr_bears_15 (by decide) ?_
      obtain rfl := Option.some.inj hf
      exact fh_iret S hr hk (fh_nb (Or.inr rfl)) hAe hI d_Dr_bears_28
theorem d_FF_holds_0 : decode c0_FF_holds 0 = .ok (.iload_n 1, 1) := by decide +kernel
theorem d_FF_holds_1 : decode c0_FF_holds 1 = .ok (.invokestatic 103, 3) := by decide +kernel
theorem d_FF_holds_4 : decode c0_FF_holds 4 = .ok (.ifCond .eq 42, 3) := by decide +kernel
theorem d_FF_holds_7 : decode c0_FF_holds 7 = .ok (.aload_n 0, 1) := by decide +kernel
theorem d_FF_holds_8 : decode c0_FF_holds 8 = .ok (.getstatic 106, 3) := by decide +kernel
theorem d_FF_holds_11 : decode c0_FF_holds 11 = .ok (.iload_n 1, 1) := by decide +kernel
theorem d_FF_holds_12 : decode c0_FF_holds 12 = .ok (.iaload, 1) := by decide +kernel
theorem d_FF_holds_13 : decode c0_FF_holds 13 = .ok (.iload_n 2, 1) := by decide +kernel
theorem d_FF_holds_14 : decode c0_FF_holds 14 = .ok (.iload_n 3, 1) := by decide +kernel
theorem d_FF_holds_15 : decode c0_FF_holds 15 = .ok (.iload 4, 2) := by decide +kernel
theorem d_FF_holds_17 : decode c0_FF_holds 17 = .ok (.iload 5, 2) := by decide +kernel
theorem d_FF_holds_19 : decode c0_FF_holds 19 = .ok (.iload 6, 2) := by decide +kernel
theorem d_FF_holds_21 : decode c0_FF_holds 21 = .ok (.iload 7, 2) := by decide +kernel
theorem d_FF_holds_23 : decode c0_FF_holds 23 = .ok (.invokevirtual 109, 3) := by decide +kernel
theorem d_FF_holds_26 : decode c0_FF_holds 26 = .ok (.ifCond .eq 20, 3) := by decide +kernel
theorem d_FF_holds_29 : decode c0_FF_holds 29 = .ok (.iload_n 1, 1) := by decide +kernel
theorem d_FF_holds_30 : decode c0_FF_holds 30 = .ok (.iload_n 2, 1) := by decide +kernel
theorem d_FF_holds_31 : decode c0_FF_holds 31 = .ok (.iload_n 3, 1) := by decide +kernel
theorem d_FF_holds_32 : decode c0_FF_holds 32 = .ok (.iload 4, 2) := by decide +kernel
theorem d_FF_holds_34 : decode c0_FF_holds 34 = .ok (.iload 5, 2) := by decide +kernel
theorem d_FF_holds_36 : decode c0_FF_holds 36 = .ok (.iload 6, 2) := by decide +kernel
theorem d_FF_holds_38 : decode c0_FF_holds 38 = .ok (.iload 7, 2) := by decide +kernel
theorem d_FF_holds_40 : decode c0_FF_holds 40 = .ok (.invokestatic 113, 3) := by decide +kernel
theorem d_FF_holds_43 : decode c0_FF_holds 43 = .ok (.ifCond .ne 6, 3) := by decide +kernel
theorem d_FF_holds_46 : decode c0_FF_holds 46 = .ok (.bipush (-2), 2) := by decide +kernel
theorem d_FF_holds_48 : decode c0_FF_holds 48 = .ok (.ireturn, 1) := by decide +kernel
theorem d_FF_holds_49 : decode c0_FF_holds 49 = .ok (.getstatic 106, 3) := by decide +kernel
theorem d_FF_holds_52 : decode c0_FF_holds 52 = .ok (.iload_n 1, 1) := by decide +kernel
theorem d_FF_holds_53 : decode c0_FF_holds 53 = .ok (.iaload, 1) := by decide +kernel
theorem d_FF_holds_54 : decode c0_FF_holds 54 = .ok (.istore 8, 2) := by decide +kernel
theorem d_FF_holds_56 : decode c0_FF_holds 56 = .ok (.iload_n 2, 1) := by decide +kernel
theorem d_FF_holds_57 : decode c0_FF_holds 57 = .ok (.iload_n 3, 1) := by decide +kernel
theorem d_FF_holds_58 : decode c0_FF_holds 58 = .ok (.iload 8, 2) := by decide +kernel
theorem d_FF_holds_60 : decode c0_FF_holds 60 = .ok (.iconst 2, 1) := by decide +kernel
theorem d_FF_holds_61 : decode c0_FF_holds 61 = .ok (.if_icmp .le 8, 3) := by decide +kernel
theorem d_FF_holds_64 : decode c0_FF_holds 64 = .ok (.iload 4, 2) := by decide +kernel
theorem d_FF_holds_66 : decode c0_FF_holds 66 = .ok (.goto 4, 3) := by decide +kernel
theorem d_FF_holds_69 : decode c0_FF_holds 69 = .ok (.iconst 0, 1) := by decide +kernel
theorem d_FF_holds_70 : decode c0_FF_holds 70 = .ok (.invokestatic 116, 3) := by decide +kernel
theorem d_FF_holds_73 : decode c0_FF_holds 73 = .ok (.istore 9, 2) := by decide +kernel
theorem d_FF_holds_75 : decode c0_FF_holds 75 = .ok (.iload 8, 2) := by decide +kernel
theorem d_FF_holds_77 : decode c0_FF_holds 77 = .ok (.iconst 3, 1) := by decide +kernel
theorem d_FF_holds_78 : decode c0_FF_holds 78 = .ok (.if_icmp .le 39, 3) := by decide +kernel
theorem d_FF_holds_81 : decode c0_FF_holds 81 = .ok (.iload 9, 2) := by decide +kernel
theorem d_FF_holds_83 : decode c0_FF_holds 83 = .ok (.iload 5, 2) := by decide +kernel
theorem d_FF_holds_85 : decode c0_FF_holds 85 = .ok (.iload 8, 2) := by decide +kernel
theorem d_FF_holds_87 : decode c0_FF_holds 87 = .ok (.iconst 4, 1) := by decide +kernel
theorem d_FF_holds_88 : decode c0_FF_holds 88 = .ok (.if_icmp .le 8, 3) := by decide +kernel
theorem d_FF_holds_91 : decode c0_FF_holds 91 = .ok (.iload 6, 2) := by decide +kernel
theorem d_FF_holds_93 : decode c0_FF_holds 93 = .ok (.goto 4, 3) := by decide +kernel
theorem d_FF_holds_96 : decode c0_FF_holds 96 = .ok (.iconst 0, 1) := by decide +kernel
theorem d_FF_holds_97 : decode c0_FF_holds 97 = .ok (.iload 8, 2) := by decide +kernel
theorem d_FF_holds_99 : decode c0_FF_holds 99 = .ok (.iconst 4, 1) := by decide +kernel
theorem d_FF_holds_100 : decode c0_FF_holds 100 = .ok (.if_icmp .le 8, 3) := by decide +kernel
theorem d_FF_holds_103 : decode c0_FF_holds 103 = .ok (.iload 7, 2) := by decide +kernel
theorem d_FF_holds_105 : decode c0_FF_holds 105 = .ok (.goto 4, 3) := by decide +kernel
theorem d_FF_holds_108 : decode c0_FF_holds 108 = .ok (.iconst 0, 1) := by decide +kernel
theorem d_FF_holds_109 : decode c0_FF_holds 109 = .ok (.invokestatic 116, 3) := by decide +kernel
theorem d_FF_holds_112 : decode c0_FF_holds 112 = .ok (.invokestatic 120, 3) := by decide +kernel
theorem d_FF_holds_115 : decode c0_FF_holds 115 = .ok (.istore 9, 2) := by decide +kernel
theorem d_FF_holds_117 : decode c0_FF_holds 117 = .ok (.aload_n 0, 1) := by decide +kernel
theorem d_FF_holds_118 : decode c0_FF_holds 118 = .ok (.getfield 19, 3) := by decide +kernel
theorem d_FF_holds_121 : decode c0_FF_holds 121 = .ok (.getfield 51, 3) := by decide +kernel
theorem d_FF_holds_124 : decode c0_FF_holds 124 = .ok (.iload_n 1, 1) := by decide +kernel
theorem d_FF_holds_125 : decode c0_FF_holds 125 = .ok (.iload 9, 2) := by decide +kernel
theorem d_FF_holds_127 : decode c0_FF_holds 127 = .ok (.invokevirtual 123, 3) := by decide +kernel
theorem d_FF_holds_130 : decode c0_FF_holds 130 = .ok (.ifCond .eq 7, 3) := by decide +kernel
theorem d_FF_holds_133 : decode c0_FF_holds 133 = .ok (.iconst 1, 1) := by decide +kernel
theorem d_FF_holds_134 : decode c0_FF_holds 134 = .ok (.goto 4, 3) := by decide +kernel
theorem d_FF_holds_137 : decode c0_FF_holds 137 = .ok (.iconst 0, 1) := by decide +kernel
theorem d_FF_holds_138 : decode c0_FF_holds 138 = .ok (.ireturn, 1) := by decide +kernel
def b_FF_holds_117 (K : Nat → ClassId) (N : Nat) (o : Nat) (v1 : Int32) (v9 : Int32) (h : fh_H) : Option (Int32 × fh_H) :=
  (fg_a h (some o) 0 1).bind fun x1 => (fg_a h x1 2 0).bind fun x2 => (fg_o h x2 3).bind fun o3 => (f_Dr_bears K N o3 v1 v9 h).bind fun r4 => if r4.1 = 0 then (some (0, r4.2)) else (some (1, r4.2))
def b_FF_holds_109 (K : Nat → ClassId) (N : Nat) (o : Nat) (v1 : Int32) (w0 : Int32) (w1 : Int32) (w2 : Int32) (w3 : Int32) (h : fh_H) : Option (Int32 × fh_H) :=
  (f_FF_pack K N w1 w2 w3 h).bind fun r1 => (f_FF_join K N w0 r1.1 r1.2).bind fun r2 => b_FF_holds_117 K N o v1 r2.1 r2.2
def b_FF_holds_97 (K : Nat → ClassId) (N : Nat) (o : Nat) (v1 : Int32) (v7 : Int32) (v8 : Int32) (w0 : Int32) (w1 : Int32) (w2 : Int32) (h : fh_H) : Option (Int32 × fh_H) :=
  if v8 ≤ 4 then (b_FF_holds_109 K N o v1 w0 w1 w2 0 h) else (b_FF_holds_109 K N o v1 w0 w1 w2 v7 h)
def b_FF_holds_70 (K : Nat → ClassId) (N : Nat) (o : Nat) (v1 : Int32) (v5 : Int32) (v6 : Int32) (v7 : Int32) (v8 : Int32) (w0 : Int32) (w1 : Int32) (w2 : Int32) (h : fh_H) : Option (Int32 × fh_H) :=
  (f_FF_pack K N w0 w1 w2 h).bind fun r1 => if v8 ≤ 3 then (b_FF_holds_117 K N o v1 r1.1 r1.2) else (if v8 ≤ 4 then (b_FF_holds_97 K N o v1 v7 v8 r1.1 v5 0 r1.2) else (b_FF_holds_97 K N o v1 v7 v8 r1.1 v5 v6 r1.2))
def f_FF_holds (K : Nat → ClassId) (N : Nat) (o : Nat) (a1 : Int32) (a2 : Int32) (a3 : Int32) (a4 : Int32) (a5 : Int32) (a6 : Int32) (a7 : Int32) (h0 : fh_H) : Option (Int32 × fh_H) :=
  (f_FF_isFactKind K N a1 h0).bind fun r1 => if r1.1 = 0 then (some ((-2), r1.2)) else ((ft_i 9 tb_2 a1).bind fun x2 => (fg_o r1.2 (some o) 0).bind fun o3 => (f_FF_areThere K N o3 x2 a2 a3 a4 a5 a6 a7 r1.2).bind fun r4 => if r4.1 = 0 then (some ((-2), r4.2)) else ((f_FF_isFact K N a1 a2 a3 a4 a5 a6 a7 r4.2).bind fun r5 => if r5.1 = 0 then (some ((-2), r5.2)) else ((ft_i 9 tb_2 a1).bind fun x6 => if x6 ≤ 2 then (b_FF_holds_70 K N o a1 a5 a6 a7 x6 a2 a3 0 r5.2) else (b_FF_holds_70 K N o a1 a5 a6 a7 x6 a2 a3 a4 r5.2))))
set_option maxHeartbeats 4000000 in
set_option maxRecDepth 100000 in
theorem c_FF_holds {l : Launch} {D : va_G} {K : Nat → ClassId} {t : Nat → Nat} {N : Nat} {o : Nat} {a1 : Int32} {a2 : Int32} {a3 : Int32} {a4 : Int32} {a5 : Int32} {a6 : Int32} {a7 : Int32} {h0 : fh_H} {res : Int32 × fh_H} (hf : f_FF_holds K N o a1 a2 a3 a4 a5 a6 a7 h0 = some res) : fC l D K t y_FF_holds c0_FF_holds 10 (some .int) rm_FF_holds [.ref o, .int a1, .int a2, .int a3, .int a4, .int a5, .int a6, .int a7] h0 (some (.int res.1)) res.2 := by
  refine fh_body (by decide) (Nat.le_of_ble_eq_true rfl) ?_
  intro p e s m below meth c A ls S hr hk hnm hE hAe hI hl
  obtain ⟨hx, hb, hml, hown, hts⟩ := id S
  have hl : lv_has ls 10 [(0, va_rf (some o)), (1, .int a1), (2, .int a2), (3, .int a3), (4, .int a4), (5, .int a5), (6, .int a6), (7, .int a7)] := hl
  have B117 : ∀ (v1 : Int32) (v9 : Int32) (h : fh_H) (H : Heap) (locs : List Loc) (ls : Array Slot), lv_has ls 10 [(0, va_rf (some o)), (1, .int v1), (9, .int v9)] → fh_I D classes A s.heap h H locs → b_FF_holds_117 K N o v1 v9 h = some res → W p l e rm_FF_holds s m [.ref o, .int a1, .int a2, .int a3, .int a4, .int a5, .int a6, .int a7].toArray below meth c H locs 0 0 (MQ below (fh_Q D classes h0 s.heap.size (some (.int res.1)) res.2) [.ref o, .int a1, .int a2, .int a3, .int a4, .int a5, .int a6, .int a7].toArray s 0 0 A) (F0 m 117 ls []) := by
    intro v1 v9 h H locs ls hl hI hf
    unfold b_FF_holds_117 at hf
    refine fh_aload_n S d_FF_holds_117 rfl (lv_at hl 0 rfl) ?_
    obtain ⟨x1, e_x1, hf⟩ := fh_b hf
    refine fh_geta S hE.1 hI e_x1 (hc := rfl) (hin := in_0) (by decide) (hts _ k_40) d_FF_holds_118 ?_
    obtain ⟨x2, e_x2, hf⟩ := fh_b hf
    refine fh_geta S hE.1 hI e_x2 (hc := rfl) (hin := in_2) (by decide) (hts _ k_41) d_FF_holds_121 ?_
    refine lv_iload_n hx hb d_FF_holds_124 rfl (lv_at hl 1 rfl) ?_
    refine lv_iload hx hb d_FF_holds_125 (lv_at hl 2 rfl) ?_
    obtain ⟨o3, e_o3, hf⟩ := fh_b hf
    obtain ⟨r4, e_r4, hf⟩ := fh_b hf
    refine fh_callV (As := [.int v1, .int v9]) (rest := []) S fT_good hE hI e_o3 rfl (c_Dr_bears e_r4) fy_Dr_bears fst_Dr_bears k_98 ⟨rfl, rfl⟩ ⟨Nat.le_of_ble_eq_true rfl, Nat.le_of_ble_eq_true rfl⟩ ⟨Nat.zero_le _, Nat.zero_le _⟩ rfl hl.1 rfl (Nat.le_of_ble_eq_true rfl) d_FF_holds_127 (fun H locs hI => ?_)
    refine lv_if_eq (tgt := 137) hx hb d_FF_holds_130 (by decide) (fun c_130 => ?_) (fun c_130 => ?_)
    · replace hf := fh_t c_130 hf
      refine lv_iconst (v := 0) hx hb d_FF_holds_137 (by decide) ?_
      obtain rfl := Option.some.inj hf
      exact fh_iret S hr hk rfl hAe hI d_FF_holds_138
    · replace hf := fh_f c_130 hf
      refine lv_iconst (v := 1) hx hb d_FF_holds_133 (by decide) ?_
      refine lv_goto (tgt := 138) hx hb d_FF_holds_134 (by decide) ?_
      obtain rfl := Option.some.inj hf
      exact fh_iret S hr hk rfl hAe hI d_FF_holds_138
  have B109 : ∀ (v1 : Int32) (w0 : Int32) (w1 : Int32) (w2 : Int32) (w3 : Int32) (h : fh_H) (H : Heap) (locs : List Loc) (ls : Array Slot), lv_has ls 10 [(0, va_rf (some o)), (1, .int v1)] → fh_I D classes A s.heap h H locs → b_FF_holds_109 K N o v1 w0 w1 w2 w3 h = some res → W p l e rm_FF_holds s m [.ref o, .int a1, .int a2, .int a3, .int a4, .int a5, .int a6, .int a7].toArray below meth c H locs 0 0 (MQ below (fh_Q D classes h0 s.heap.size (some (.int res.1)) res.2) [.ref o, .int a1, .int a2, .int a3, .int a4, .int a5, .int a6, .int a7].toArray s 0 0 A) (F0 m 109 ls [.int w3, .int w2, .int w1, .int w0]) := by
    intro v1 w0 w1 w2 w3 h H locs ls hl hI hf
    unfold b_FF_holds_109 at hf
    obtain ⟨r1, e_r1, hf⟩ := fh_b hf
    refine fh_callS (As := [.int w1, .int w2, .int w3]) (rest := [.int w0]) S fT_good hE hI (c_FF_pack e_r1) fy_FF_pack fst_FF_pack k_96 ⟨rfl, rfl⟩ ⟨Nat.le_of_ble_eq_true rfl, Nat.le_of_ble_eq_true rfl⟩ ⟨Nat.zero_le _, Nat.zero_le _⟩ rfl hl.1 rfl (Nat.le_of_ble_eq_true rfl) d_FF_holds_109 (fun H locs hI => ?_)
    obtain ⟨r2, e_r2, hf⟩ := fh_b hf
    refine fh_callS (As := [.int w0, .int r1.1]) (rest := []) S fT_good hE hI (c_FF_join e_r2) fy_FF_join fst_FF_join k_97 ⟨rfl, rfl⟩ ⟨Nat.le_of_ble_eq_true rfl, Nat.le_of_ble_eq_true rfl⟩ ⟨Nat.zero_le _, Nat.zero_le _⟩ rfl hl.1 rfl (Nat.le_of_ble_eq_true rfl) d_FF_holds_112 (fun H locs hI => ?_)
    refine lv_istore (lv' := [(9, .int r2.1), (0, va_rf (some o)), (1, .int v1)]) hx hb d_FF_holds_115 hl (by decide) rfl (fun ls hl => ?_)
    exact B117 v1 r2.1 r2.2 _ _ _ (lv_sub hl [1, 2, 0] rfl) hI hf
  have B97 : ∀ (v1 : Int32) (v7 : Int32) (v8 : Int32) (w0 : Int32) (w1 : Int32) (w2 : Int32) (h : fh_H) (H : Heap) (locs : List Loc) (ls : Array Slot), lv_has ls 10 [(0, va_rf (some o)), (1, .int v1), (7, .int v7), (8, .int v8)] → fh_I D classes A s.heap h H locs → b_FF_holds_97 K N o v1 v7 v8 w0 w1 w2 h = some res → W p l e rm_FF_holds s m [.ref o, .int a1, .int a2, .int a3, .int a4, .int a5, .int a6, .int a7].toArray below meth c H locs 0 0 (MQ below (fh_Q D classes h0 s.heap.size (some (.int res.1)) res.2) [.ref o, .int a1, .int a2, .int a3, .int a4, .int a5, .int a6, .int a7].toArray s 0 0 A) (F0 m 97 ls [.int w2, .int w1, .int w0]) := by
    intro v1 v7 v8 w0 w1 w2 h H locs ls hl hI hf
    unfold b_FF_holds_97 at hf
    refine lv_iload hx hb d_FF_holds_97 (lv_at hl 3 rfl) ?_
    refine lv_iconst (v := 4) hx hb d_FF_holds_99 (by decide) ?_
    refine lv_icmp_le (tgt := 108) hx hb d_FF_holds_100 (by decide) (fun c_100 => ?_) (fun c_100 => ?_)
    · replace hf := fh_t c_100 hf
      refine lv_iconst (v := 0) hx hb d_FF_holds_108 (by decide) ?_
      exact B109 v1 w0 w1 w2 0 h _ _ _ (lv_sub hl [0, 1] rfl) hI hf
    · replace hf := fh_f c_100 hf
      refine lv_iload hx hb d_FF_holds_103 (lv_at hl 2 rfl) ?_
      refine lv_goto (tgt := 109) hx hb d_FF_holds_105 (by decide) ?_
      exact B109 v1 w0 w1 w2 v7 h _ _ _ (lv_sub hl [0, 1] rfl) hI hf
  have B70 : ∀ (v1 : Int32) (v5 : Int32) (v6 : Int32) (v7 : Int32) (v8 : Int32) (w0 : Int32) (w1 : Int32) (w2 : Int32) (h : fh_H) (H : Heap) (locs : List Loc) (ls : Array Slot), lv_has ls 10 [(0, va_rf (some o)), (1, .int v1), (5, .int v5), (6, .int v6), (7, .int v7), (8, .int v8)] → fh_I D classes A s.heap h H locs → b_FF_holds_70 K N o v1 v5 v6 v7 v8 w0 w1 w2 h = some res → W p l e rm_FF_holds s m [.ref o, .int a1, .int a2, .int a3, .int a4, .int a5, .int a6, .int a7].toArray below meth c H locs 0 0 (MQ below (fh_Q D classes h0 s.heap.size (some (.int res.1)) res.2) [.ref o, .int a1, .int a2, .int a3, .int a4, .int a5, .int a6, .int a7].toArray s 0 0 A) (F0 m 70 ls [.int w2, .int w1, .int w0]) := by
    intro v1 v5 v6 v7 v8 w0 w1 w2 h H locs ls hl hI hf
    unfold b_FF_holds_70 at hf
    obtain ⟨r1, e_r1, hf⟩ := fh_b hf
    refine fh_callS (As := [.int w0, .int w1, .int w2]) (rest := []) S fT_good hE hI (c_FF_pack e_r1) fy_FF_pack fst_FF_pack k_96 ⟨rfl, rfl⟩ ⟨Nat.le_of_ble_eq_true rfl, Nat.le_of_ble_eq_true rfl⟩ ⟨Nat.zero_le _, Nat.zero_le _⟩ rfl hl.1 rfl (Nat.le_of_ble_eq_true rfl) d_FF_holds_70 (fun H locs hI => ?_)
    refine lv_istore (lv' := [(9, .int r1.1), (0, va_rf (some o)), (1, .int v1), (5, .int v5), (6, .int v6), (7, .int v7), (8, .int v8)]) hx hb d_FF_holds_73 hl (by decide) rfl (fun ls hl => ?_)
    refine lv_iload hx hb d_FF_holds_75 (lv_at hl 6 rfl) ?_
    refine lv_iconst (v := 3) hx hb d_FF_holds_77 (by decide) ?_
    refine lv_icmp_le (tgt := 117) hx hb d_FF_holds_78 (by decide) (fun c_78 => ?_) (fun c_78 => ?_)
    · replace hf := fh_t c_78 hf
      exact B117 v1 r1.1 r1.2 _ _ _ (lv_sub hl [1, 2, 0] rfl) hI hf
    · replace hf := fh_f c_78 hf
      refine lv_iload hx hb d_FF_holds_81 (lv_at hl 0 rfl) ?_
      refine lv_iload hx hb d_FF_holds_83 (lv_at hl 3 rfl) ?_
      refine lv_iload hx hb d_FF_holds_85 (lv_at hl 6 rfl) ?_
      refine lv_iconst (v := 4) hx hb d_FF_holds_87 (by decide) ?_
      refine lv_icmp_le (tgt := 96) hx hb d_FF_holds_88 (by decide) (fun c_88 => ?_) (fun c_88 => ?_)
      · replace hf := fh_t c_88 hf
        refine lv_iconst (v := 0) hx hb d_FF_holds_96 (by decide) ?_
        exact B97 v1 v7 v8 r1.1 v5 0 r1.2 _ _ _ (lv_sub hl [1, 2, 5, 6] rfl) hI hf
      · replace hf := fh_f c_88 hf
        refine lv_iload hx hb d_FF_holds_91 (lv_at hl 4 rfl) ?_
        refine lv_goto (tgt := 97) hx hb d_FF_holds_93 (by decide) ?_
        exact B97 v1 v7 v8 r1.1 v5 v6 r1.2 _ _ _ (lv_sub hl [1, 2, 5, 6] rfl) hI hf
  unfold f_FF_holds at hf
  refine lv_iload_n hx hb d_FF_holds_0 rfl (lv_at hl 1 rfl) ?_
  obtain ⟨r1, e_r1, hf⟩ := fh_b hf
  refine fh_callS (As := [.int a1]) (rest := []) S fT_good hE hI (c_FF_isFactKind e_r1) fy_FF_isFactKind fst_FF_isFactKind k_92 ⟨rfl, rfl⟩ ⟨Nat.le_of_ble_eq_true rfl, Nat.le_of_ble_eq_true rfl⟩ ⟨Nat.zero_le _, Nat.zero_le _⟩ rfl hl.1 rfl (Nat.le_of_ble_eq_true rfl) d_FF_holds_1 (fun H locs hI => ?_)
  refine lv_if_eq (tgt := 46) hx hb d_FF_holds_4 (by decide) (fun c_4 => ?_) (fun c_4 => ?_)
  · replace hf := fh_t c_4 hf
    refine lv_bipush (v := (-2)) hx hb d_FF_holds_46 (by decide) ?_
    obtain rfl := Option.some.inj hf
    exact fh_iret S hr hk rfl hAe hI d_FF_holds_48
  · replace hf := fh_f c_4 hf
    refine fh_aload_n S d_FF_holds_7 rfl (lv_at hl 0 rfl) ?_
    refine fh_gett S hE.2.1 hI (k := 2) rfl (hts _ k_93) d_FF_holds_8 ?_
    refine lv_iload_n hx hb d_FF_holds_11 rfl (lv_at hl 1 rfl) ?_
    obtain ⟨x2, e_x2, hf⟩ := fh_b hf
    refine fh_tald S hE.2.1 hI (k := 2) rfl e_x2 d_FF_holds_12 ?_
    refine lv_iload_n hx hb d_FF_holds_13 rfl (lv_at hl 2 rfl) ?_
    refine lv_iload_n hx hb d_FF_holds_14 rfl (lv_at hl 3 rfl) ?_
    refine lv_iload hx hb d_FF_holds_15 (lv_at hl 4 rfl) ?_
    refine lv_iload hx hb d_FF_holds_17 (lv_at hl 5 rfl) ?_
    refine lv_iload hx hb d_FF_holds_19 (lv_at hl 6 rfl) ?_
    refine lv_iload hx hb d_FF_holds_21 (lv_at hl 7 rfl) ?_
    obtain ⟨o3, e_o3, hf⟩ := fh_b hf
    obtain ⟨r4, e_r4, hf⟩ := fh_b hf
    refine fh_callV (As := [.int x2, .int a2, .int a3, .int a4, .int a5, .int a6, .int a7]) (rest := []) S fT_good hE hI e_o3 rfl (c_FF_areThere e_r4) fy_FF_areThere fst_FF_areThere k_94 ⟨rfl, rfl⟩ ⟨Nat.le_of_ble_eq_true rfl, Nat.le_of_ble_eq_true rfl⟩ ⟨Nat.zero_le _, Nat.zero_le _⟩ rfl hl.1 rfl (Nat.le_of_ble_eq_true rfl) d_FF_holds_23 (fun H locs hI => ?_)
    refine lv_if_eq (tgt := 46) hx hb d_FF_holds_26 (by decide) (fun c_26 => ?_) (fun c_26 => ?_)
    · replace hf := fh_t c_26 hf
      refine lv_bipush (v := (-2)) hx hb d_FF_holds_46 (by decide) ?_
      obtain rfl := Option.some.inj hf
      exact fh_iret S hr hk rfl hAe hI d_FF_holds_48
    · replace hf := fh_f c_26 hf
      refine lv_iload_n hx hb d_FF_holds_29 rfl (lv_at hl 1 rfl) ?_
      refine lv_iload_n hx hb d_FF_holds_30 rfl (lv_at hl 2 rfl) ?_
      refine lv_iload_n hx hb d_FF_holds_31 rfl (lv_at hl 3 rfl) ?_
      refine lv_iload hx hb d_FF_holds_32 (lv_at hl 4 rfl) ?_
      refine lv_iload hx hb d_FF_holds_34 (lv_at hl 5 rfl) ?_
      refine lv_iload hx hb d_FF_holds_36 (lv_at hl 6 rfl) ?_
      refine lv_iload hx hb d_FF_holds_38 (lv_at hl 7 rfl) ?_
      obtain ⟨r5, e_r5, hf⟩ := fh_b hf
      refine fh_callS (As := [.int a1, .int a2, .int a3, .int a4, .int a5, .int a6, .int a7]) (rest := []) S fT_good hE hI (c_FF_isFact e_r5) fy_FF_isFact fst_FF_isFact k_95 ⟨rfl, rfl⟩ ⟨Nat.le_of_ble_eq_true rfl, Nat.le_of_ble_eq_true rfl⟩ ⟨Nat.zero_le _, Nat.zero_le _⟩ rfl hl.1 rfl (Nat.le_of_ble_eq_true rfl) d_FF_holds_40 (fun H locs hI => ?_)
      refine lv_if_ne (tgt := 49) hx hb d_FF_holds_43 (by decide) (fun c_43 => ?_) (fun c_43 => ?_)
      · replace hf := fh_f c_43 hf
        refine fh_gett S hE.2.1 hI (k := 2) rfl (hts _ k_93) d_FF_holds_49 ?_
        refine lv_iload_n hx hb d_FF_holds_52 rfl (lv_at hl 1 rfl) ?_
        obtain ⟨x6, e_x6, hf⟩ := fh_b hf
        refine fh_tald S hE.2.1 hI (k := 2) rfl e_x6 d_FF_holds_53 ?_
        refine lv_istore (lv' := [(8, .int x6), (0, va_rf (some o)), (1, .int a1), (2, .int a2), (3, .int a3), (4, .int a4), (5, .int a5), (6, .int a6), (7, .int a7)]) hx hb d_FF_holds_54 hl (by decide) rfl (fun ls hl => ?_)
        refine lv_iload_n hx hb d_FF_holds_56 rfl (lv_at hl 3 rfl) ?_
        refine lv_iload_n hx hb d_FF_holds_57 rfl (lv_at hl 4 rfl) ?_
        refine lv_iload hx hb d_FF_holds_58 (lv_at hl 0 rfl) ?_
        refine lv_iconst (v := 2) hx hb d_FF_holds_60 (by decide) ?_
        refine lv_icmp_le (tgt := 69) hx hb d_FF_holds_61 (by decide) (fun c_61 => ?_) (fun c_61 => ?_)
        · replace hf := fh_t c_61 hf
          refine lv_iconst (v := 0) hx hb d_FF_holds_69 (by decide) ?_
          exact B70 a1 a5 a6 a7 x6 a2 a3 0 r5.2 _ _ _ (lv_sub hl [1, 2, 6, 7, 8, 0] rfl) hI hf
        · replace hf := fh_f c_61 hf
          refine lv_iload hx hb d_FF_holds_64 (lv_at hl 5 rfl) ?_
          refine lv_goto (tgt := 70) hx hb d_FF_holds_66 (by decide) ?_
          exact B70 a1 a5 a6 a7 x6 a2 a3 a4 r5.2 _ _ _ (lv_sub hl [1, 2, 6, 7, 8, 0] rfl) hI hf
      · replace hf := fh_t c_43 hf
        refine lv_bipush (v := (-2)) hx hb d_FF_holds_46 (by decide) ?_
        obtain rfl := Option.some.inj hf
        exact fh_iret S hr hk rfl hAe hI d_FF_holds_48
theorem d_IL_add_0 : decode c0_IL_add 0 = .ok (.aload_n 0, 1) := by decide +kernel
theorem d_IL_add_1 : decode c0_IL_add 1 = .ok (.getfield 19, 3) := by decide +kernel
theorem d_IL_add_4 : decode c0_IL_add 4 = .ok (.aload_n 0, 1) := by decide +kernel
theorem d_IL_add_5 : decode c0_IL_add 5 = .ok (.getfield 13, 3) := by decide +kernel
theorem d_IL_add_8 : decode c0_IL_add 8 = .ok (.arraylength, 1) := by decide +kernel
theorem d_IL_add_9 : decode c0_IL_add 9 = .ok (.if_icmp .ge 23, 3) := by decide +kernel
theorem d_IL_add_12 : decode c0_IL_add 12 = .ok (.aload_n 0, 1) := by decide +kernel
theorem d_IL_add_13 : decode c0_IL_add 13 = .ok (.getfield 13, 3) := by decide +kernel
theorem d_IL_add_16 : decode c0_IL_add 16 = .ok (.aload_n 0, 1) := by decide +kernel
theorem d_IL_add_17 : decode c0_IL_add 17 = .ok (.getfield 19, 3) := by decide +kernel
theorem d_IL_add_20 : decode c0_IL_add 20 = .ok (.iload_n 1, 1) := by decide +kernel
theorem d_IL_add_21 : decode c0_IL_add 21 = .ok (.iastore, 1) := by decide +kernel
theorem d_IL_add_22 : decode c0_IL_add 22 = .ok (.aload_n 0, 1) := by decide +kernel
theorem d_IL_add_23 : decode c0_IL_add 23 = .ok (.dup, 1) := by decide +kernel
theorem d_IL_add_24 : decode c0_IL_add 24 = .ok (.getfield 19, 3) := by decide +kernel
theorem d_IL_add_27 : decode c0_IL_add 27 = .ok (.iconst 1, 1) := by decide +kernel
theorem d_IL_add_28 : decode c0_IL_add 28 = .ok (.iadd, 1) := by decide +kernel
theorem d_IL_add_29 : decode c0_IL_add 29 = .ok (.putfield 19, 3) := by decide +kernel
theorem d_IL_add_32 : decode c0_IL_add 32 = .ok (.return_, 1) := by decide +kernel
def f_IL_add (K : Nat → ClassId) (N : Nat) (o : Nat) (a1 : Int32) (h0 : fh_H) : Option (fh_H) :=
  (fg_i h0 (some o) 5 1).bind fun x1 => (fg_a h0 (some o) 5 0).bind fun x2 => (fl_n (K 0) h0 x2).bind fun x3 => if x3 ≤ x1 then (some h0) else ((fg_a h0 (some o) 5 0).bind fun x4 => (fg_i h0 (some o) 5 1).bind fun x5 => (fs_i (K 0) h0 x4 x5 a1).bind fun h6 => (fg_i h6 (some o) 5 1).bind fun x7 => (fp_v h6 (some o) 5 1 (.int (x7 + 1))).bind fun h8 => some h8)
set_option maxHeartbeats 4000000 in
set_option maxRecDepth 100000 in
theorem c_IL_add {l : Launch} {D : va_G} {K : Nat → ClassId} {t : Nat → Nat} {N : Nat} {o : Nat} {a1 : Int32} {h0 : fh_H} {res : fh_H} (hf : f_IL_add K N o a1 h0 = some res) : fC l D K t y_IL_add c0_IL_add 2 none rm_IL_add [.ref o, .int a1] h0 (none) res := by
  refine fh_body (by decide) (Nat.le_of_ble_eq_true rfl) ?_
  intro p e s m below meth c A ls S hr hk hnm hE hAe hI hl
  obtain ⟨hx, hb, hml, hown, hts⟩ := id S
  have hl : lv_has ls 2 [(0, va_rf (some o)), (1, .int a1)] := hl
  unfold f_IL_add at hf
  refine fh_aload_n S d_IL_add_0 rfl (lv_at hl 0 rfl) ?_
  obtain ⟨x1, e_x1, hf⟩ := fh_b hf
  refine fh_geti S hE.1 hI e_x1 (hc := rfl) (hin := in_5) (by decide) (hts _ k_99) d_IL_add_1 ?_
  refine fh_aload_n S d_IL_add_4 rfl (lv_at hl 0 rfl) ?_
  obtain ⟨x2, e_x2, hf⟩ := fh_b hf
  refine fh_geta S hE.1 hI e_x2 (hc := rfl) (hin := in_5) (by decide) (hts _ k_100) d_IL_add_5 ?_
  obtain ⟨x3, e_x3, hf⟩ := fh_b hf
  refine fh_alen S hE.1 hI 0 rfl e_x3 d_IL_add_8 ?_
  refine lv_icmp_ge (tgt := 32) hx hb d_IL_add_9 (by decide) (fun c_9 => ?_) (fun c_9 => ?_)
  · replace hf := fh_t c_9 hf
    obtain rfl := Option.some.inj hf
    exact fh_vret S hr hk hAe hI d_IL_add_32
  · replace hf := fh_f c_9 hf
    refine fh_aload_n S d_IL_add_12 rfl (lv_at hl 0 rfl) ?_
    obtain ⟨x4, e_x4, hf⟩ := fh_b hf
    refine fh_geta S hE.1 hI e_x4 (hc := rfl) (hin := in_5) (by decide) (hts _ k_100) d_IL_add_13 ?_
    refine fh_aload_n S d_IL_add_16 rfl (lv_at hl 0 rfl) ?_
    obtain ⟨x5, e_x5, hf⟩ := fh_b hf
    refine fh_geti S hE.1 hI e_x5 (hc := rfl) (hin := in_5) (by decide) (hts _ k_99) d_IL_add_17 ?_
    refine lv_iload_n hx hb d_IL_add_20 rfl (lv_at hl 1 rfl) ?_
    obtain ⟨h6, e_h6, hf⟩ := fh_b hf
    refine fh_iast S hE.1 hI 0 rfl e_h6 d_IL_add_21 (fun H locs hI => ?_)
    refine fh_aload_n S d_IL_add_22 rfl (lv_at hl 0 rfl) ?_
    refine lv_dup hx hb d_IL_add_23 fh_rfcat ?_
    obtain ⟨x7, e_x7, hf⟩ := fh_b hf
    refine fh_geti S hE.1 hI e_x7 (hc := rfl) (hin := in_5) (by decide) (hts _ k_99) d_IL_add_24 ?_
    refine lv_iconst (v := 1) hx hb d_IL_add_27 (by decide) ?_
    refine lv_iadd hx hb d_IL_add_28 ?_
    obtain ⟨h8, e_h8, hf⟩ := fh_b hf
    refine fh_putv S hE.1 hI e_h8 (hc := rfl) (hin := in_5) tok_5 nok_5 (by decide) (hts _ k_99) rfl rfl rfl d_IL_add_29 (fun H locs hI => ?_)
    obtain rfl := Option.some.inj hf
    exact fh_vret S hr hk hAe hI d_IL_add_32
theorem d_Fs_listPairs_0 : decode c0_Fs_listPairs 0 = .ok (.iconst 0, 1) := by decide +kernel
theorem d_Fs_listPairs_1 : decode c0_Fs_listPairs 1 = .ok (.istore_n 1, 1) := by decide +kernel
theorem d_Fs_listPairs_2 : decode c0_Fs_listPairs 2 = .ok (.iload_n 1, 1) := by decide +kernel
theorem d_Fs_listPairs_3 : decode c0_Fs_listPairs 3 = .ok (.aload_n 0, 1) := by decide +kernel
theorem d_Fs_listPairs_4 : decode c0_Fs_listPairs 4 = .ok (.getfield 48, 3) := by decide +kernel
theorem d_Fs_listPairs_7 : decode c0_Fs_listPairs 7 = .ok (.if_icmp .ge 57, 3) := by decide +kernel
theorem d_Fs_listPairs_10 : decode c0_Fs_listPairs 10 = .ok (.iload_n 1, 1) := by decide +kernel
theorem d_Fs_listPairs_11 : decode c0_Fs_listPairs 11 = .ok (.iconst 1, 1) := by decide +kernel
theorem d_Fs_listPairs_12 : decode c0_Fs_listPairs 12 = .ok (.iadd, 1) := by decide +kernel
theorem d_Fs_listPairs_13 : decode c0_Fs_listPairs 13 = .ok (.istore_n 2, 1) := by decide +kernel
theorem d_Fs_listPairs_14 : decode c0_Fs_listPairs 14 = .ok (.iload_n 2, 1) := by decide +kernel
theorem d_Fs_listPairs_15 : decode c0_Fs_listPairs 15 = .ok (.aload_n 0, 1) := by decide +kernel
theorem d_Fs_listPairs_16 : decode c0_Fs_listPairs 16 = .ok (.getfield 48, 3) := by decide +kernel
theorem d_Fs_listPairs_19 : decode c0_Fs_listPairs 19 = .ok (.if_icmp .ge 39, 3) := by decide +kernel
theorem d_Fs_listPairs_22 : decode c0_Fs_listPairs 22 = .ok (.aload_n 0, 1) := by decide +kernel
theorem d_Fs_listPairs_23 : decode c0_Fs_listPairs 23 = .ok (.getfield 34, 3) := by decide +kernel
theorem d_Fs_listPairs_26 : decode c0_Fs_listPairs 26 = .ok (.iload_n 1, 1) := by decide +kernel
theorem d_Fs_listPairs_27 : decode c0_Fs_listPairs 27 = .ok (.iaload, 1) := by decide +kernel
theorem d_Fs_listPairs_28 : decode c0_Fs_listPairs 28 = .ok (.aload_n 0, 1) := by decide +kernel
theorem d_Fs_listPairs_29 : decode c0_Fs_listPairs 29 = .ok (.getfield 34, 3) := by decide +kernel
theorem d_Fs_listPairs_32 : decode c0_Fs_listPairs 32 = .ok (.iload_n 2, 1) := by decide +kernel
theorem d_Fs_listPairs_33 : decode c0_Fs_listPairs 33 = .ok (.iaload, 1) := by decide +kernel
theorem d_Fs_listPairs_34 : decode c0_Fs_listPairs 34 = .ok (.if_icmp .ne 18, 3) := by decide +kernel
theorem d_Fs_listPairs_37 : decode c0_Fs_listPairs 37 = .ok (.aload_n 0, 1) := by decide +kernel
theorem d_Fs_listPairs_38 : decode c0_Fs_listPairs 38 = .ok (.getfield 20, 3) := by decide +kernel
theorem d_Fs_listPairs_41 : decode c0_Fs_listPairs 41 = .ok (.iconst 0, 1) := by decide +kernel
theorem d_Fs_listPairs_42 : decode c0_Fs_listPairs 42 = .ok (.aaload, 1) := by decide +kernel
theorem d_Fs_listPairs_43 : decode c0_Fs_listPairs 43 = .ok (.iload_n 1, 1) := by decide +kernel
theorem d_Fs_listPairs_44 : decode c0_Fs_listPairs 44 = .ok (.iload_n 2, 1) := by decide +kernel
theorem d_Fs_listPairs_45 : decode c0_Fs_listPairs 45 = .ok (.iconst 0, 1) := by decide +kernel
theorem d_Fs_listPairs_46 : decode c0_Fs_listPairs 46 = .ok (.invokestatic 98, 3) := by decide +kernel
theorem d_Fs_listPairs_49 : decode c0_Fs_listPairs 49 = .ok (.invokevirtual 127, 3) := by decide +kernel
theorem d_Fs_listPairs_52 : decode c0_Fs_listPairs 52 = .ok (.iinc 2 1, 3) := by decide +kernel
theorem d_Fs_listPairs_55 : decode c0_Fs_listPairs 55 = .ok (.goto (-41), 3) := by decide +kernel
theorem d_Fs_listPairs_58 : decode c0_Fs_listPairs 58 = .ok (.iinc 1 1, 3) := by decide +kernel
theorem d_Fs_listPairs_61 : decode c0_Fs_listPairs 61 = .ok (.goto (-59), 3) := by decide +kernel
theorem d_Fs_listPairs_64 : decode c0_Fs_listPairs 64 = .ok (.return_, 1) := by decide +kernel
def b_Fs_listPairs_52 (K : Nat → ClassId) (N : Nat) (k2 : Int32 → fh_H → Option (fh_H)) (k14 : Int32 → Int32 → fh_H → Option (fh_H)) (o : Nat) (v1 : Int32) (v2 : Int32) (h : fh_H) : Option (fh_H) :=
  (some (v2 + 1)).bind fun x1 => k14 v1 x1 h
def b_Fs_listPairs_14 (K : Nat → ClassId) (N : Nat) (k2 : Int32 → fh_H → Option (fh_H)) (k14 : Int32 → Int32 → fh_H → Option (fh_H)) (o : Nat) (v1 : Int32) (v2 : Int32) (h : fh_H) : Option (fh_H) :=
  (fg_i h (some o) 2 7).bind fun x1 => if x1 ≤ v2 then ((some (v1 + 1)).bind fun x2 => k2 x2 h) else ((fg_a h (some o) 2 4).bind fun x3 => (fa_i (K 0) h x3 v1).bind fun x4 => (fg_a h (some o) 2 4).bind fun x5 => (fa_i (K 0) h x5 v2).bind fun x6 => if x4 = x6 then ((fg_a h (some o) 2 1).bind fun x7 => (fa_a (K 4) h x7 0).bind fun x8 => (f_FF_pack K N v1 v2 0 h).bind fun r9 => (fg_o r9.2 x8 5).bind fun o10 => (f_IL_add K N o10 r9.1 r9.2).bind fun r11 => b_Fs_listPairs_52 K N k2 k14 o v1 v2 r11) else (b_Fs_listPairs_52 K N k2 k14 o v1 v2 h))
def l_Fs_listPairs_14 (K : Nat → ClassId) (N : Nat) (k2 : Int32 → fh_H → Option (fh_H)) (o : Nat) : Nat → Int32 → Int32 → fh_H → Option (fh_H)
  | 0, _, _, _ => none
  | n + 1, v1, v2, h => b_Fs_listPairs_14 K N k2 (l_Fs_listPairs_14 K N k2 o n) o v1 v2 h
def b_Fs_listPairs_2 (K : Nat → ClassId) (N : Nat) (k2 : Int32 → fh_H → Option (fh_H)) (o : Nat) (v1 : Int32) (h : fh_H) : Option (fh_H) :=
  (fg_i h (some o) 2 7).bind fun x1 => if x1 ≤ v1 then (some h) else ((some (v1 + 1)).bind fun x2 => l_Fs_listPairs_14 K N k2 o N v1 x2 h)
def l_Fs_listPairs_2 (K : Nat → ClassId) (N : Nat) (o : Nat) : Nat → Int32 → fh_H → Option (fh_H)
  | 0, _, _ => none
  | n + 1, v1, h => b_Fs_listPairs_2 K N (l_Fs_listPairs_2 K N o n) o v1 h
def f_Fs_listPairs (K : Nat → ClassId) (N : Nat) (o : Nat)  (h0 : fh_H) : Option (fh_H) :=
  l_Fs_listPairs_2 K N o N 0 h0
set_option maxHeartbeats 4000000 in
set_option maxRecDepth 100000 in
theorem c_Fs_listPairs {l : Launch} {D : va_G} {K : Nat → ClassId} {t : Nat → Nat} {N : Nat} {o : Nat}  {h0 : fh_H} {res : fh_H} (hf : f_Fs_listPairs K N o  h0 = some res) : fC l D K t y_Fs_listPairs c0_Fs_listPairs 3 none rm_Fs_listPairs [.ref o] h0 (none) res := by
  refine fh_body (by decide) (Nat.le_of_ble_eq_true rfl) ?_
  intro p e s m below meth c A ls S hr hk hnm hE hAe hI hl
  obtain ⟨hx, hb, hml, hown, hts⟩ := id S
  have hl : lv_has ls 3 [(0, va_rf (some o))] := hl
  have L2 : ∀ (n2 : Nat) (v1 : Int32) (h : fh_H) (H : Heap) (locs : List Loc) (ls : Array Slot), lv_has ls 3 [(0, va_rf (some o)), (1, .int v1)] → fh_I D classes A s.heap h H locs → l_Fs_listPairs_2 K N o n2 v1 h = some res → W p l e rm_Fs_listPairs s m [.ref o].toArray below meth c H locs 0 0 (MQ below (fh_Q D classes h0 s.heap.size (none) res) [.ref o].toArray s 0 0 A) (F0 m 2 ls []) := by
    intro n2
    induction n2 with
    | zero =>
      intro v1 h H locs ls hl hI hf
      exact fh_no hf
    | succ n2 ih2 =>
      have L14 : ∀ (n14 : Nat) (v1 : Int32) (v2 : Int32) (h : fh_H) (H : Heap) (locs : List Loc) (ls : Array Slot), lv_has ls 3 [(0, va_rf (some o)), (1, .int v1), (2, .int v2)] → fh_I D classes A s.heap h H locs → l_Fs_listPairs_14 K N (l_Fs_listPairs_2 K N o n2) o n14 v1 v2 h = some res → W p l e rm_Fs_listPairs s m [.ref o].toArray below meth c H locs 0 0 (MQ below (fh_Q D classes h0 s.heap.size (none) res) [.ref o].toArray s 0 0 A) (F0 m 14 ls []) := by
        intro n14
        induction n14 with
        | zero =>
          intro v1 v2 h H locs ls hl hI hf
          exact fh_no hf
        | succ n14 ih14 =>
          have B52 : ∀ (v1 : Int32) (v2 : Int32) (h : fh_H) (H : Heap) (locs : List Loc) (ls : Array Slot), lv_has ls 3 [(0, va_rf (some o)), (1, .int v1), (2, .int v2)] → fh_I D classes A s.heap h H locs → b_Fs_listPairs_52 K N (l_Fs_listPairs_2 K N o n2) (l_Fs_listPairs_14 K N (l_Fs_listPairs_2 K N o n2) o n14) o v1 v2 h = some res → W p l e rm_Fs_listPairs s m [.ref o].toArray below meth c H locs 0 0 (MQ below (fh_Q D classes h0 s.heap.size (none) res) [.ref o].toArray s 0 0 A) (F0 m 52 ls []) := by
            intro v1 v2 h H locs ls hl hI hf
            unfold b_Fs_listPairs_52 at hf
            obtain ⟨x1, e_x1, hf⟩ := fh_b hf
            refine lv_iinc (v := x1) (lv' := [(2, .int x1), (0, va_rf (some o)), (1, .int v1)]) hx hb d_Fs_listPairs_52 hl (k := 2) rfl (by rw [fh_qe e_x1]; rfl) (by decide) rfl (fun ls hl => ?_)
            refine lv_goto (tgt := 14) hx hb d_Fs_listPairs_55 (by decide) ?_
            exact ih14 v1 x1 h _ _ _ (lv_sub hl [1, 2, 0] rfl) hI hf
          intro v1 v2 h H locs ls hl hI hf
          have hf : b_Fs_listPairs_14 K N (l_Fs_listPairs_2 K N o n2) (l_Fs_listPairs_14 K N (l_Fs_listPairs_2 K N o n2) o n14) o v1 v2 h = some res := hf
          unfold b_Fs_listPairs_14 at hf
          refine lv_iload_n hx hb d_Fs_listPairs_14 rfl (lv_at hl 2 rfl) ?_
          refine fh_aload_n S d_Fs_listPairs_15 rfl (lv_at hl 0 rfl) ?_
          obtain ⟨x1, e_x1, hf⟩ := fh_b hf
          refine fh_geti S hE.1 hI e_x1 (hc := rfl) (hin := in_2) (by decide) (hts _ k_38) d_Fs_listPairs_16 ?_
          refine lv_icmp_ge (tgt := 58) hx hb d_Fs_listPairs_19 (by decide) (fun c_19 => ?_) (fun c_19 => ?_)
          · replace hf := fh_t c_19 hf
            obtain ⟨x2, e_x2, hf⟩ := fh_b hf
            refine lv_iinc (v := x2) (lv' := [(1, .int x2), (0, va_rf (some o)), (2, .int v2)]) hx hb d_Fs_listPairs_58 hl (k := 1) rfl (by rw [fh_qe e_x2]; rfl) (by decide) rfl (fun ls hl => ?_)
            refine lv_goto (tgt := 2) hx hb d_Fs_listPairs_61 (by decide) ?_
            exact ih2 x2 h _ _ _ (lv_sub hl [1, 0] rfl) hI hf
          · replace hf := fh_f c_19 hf
            refine fh_aload_n S d_Fs_listPairs_22 rfl (lv_at hl 0 rfl) ?_
            obtain ⟨x3, e_x3, hf⟩ := fh_b hf
            refine fh_geta S hE.1 hI e_x3 (hc := rfl) (hin := in_2) (by decide) (hts _ k_63) d_Fs_listPairs_23 ?_
            refine lv_iload_n hx hb d_Fs_listPairs_26 rfl (lv_at hl 1 rfl) ?_
            obtain ⟨x4, e_x4, hf⟩ := fh_b hf
            refine fh_iald S hE.1 hI 0 rfl e_x4 d_Fs_listPairs_27 ?_
            refine fh_aload_n S d_Fs_listPairs_28 rfl (lv_at hl 0 rfl) ?_
            obtain ⟨x5, e_x5, hf⟩ := fh_b hf
            refine fh_geta S hE.1 hI e_x5 (hc := rfl) (hin := in_2) (by decide) (hts _ k_63) d_Fs_listPairs_29 ?_
            refine lv_iload_n hx hb d_Fs_listPairs_32 rfl (lv_at hl 2 rfl) ?_
            obtain ⟨x6, e_x6, hf⟩ := fh_b hf
            refine fh_iald S hE.1 hI 0 rfl e_x6 d_Fs_listPairs_33 ?_
            refine lv_icmp_ne (tgt := 52) hx hb d_Fs_listPairs_34 (by decide) (fun c_34 => ?_) (fun c_34 => ?_)
            · replace hf := fh_f c_34 hf
              exact B52 v1 v2 h _ _ _ (lv_sub hl [0, 1, 2] rfl) hI hf
            · replace hf := fh_t c_34 hf
              refine fh_aload_n S d_Fs_listPairs_37 rfl (lv_at hl 0 rfl) ?_
              obtain ⟨x7, e_x7, hf⟩ := fh_b hf
              refine fh_geta S hE.1 hI e_x7 (hc := rfl) (hin := in_2) (by decide) (hts _ k_101) d_Fs_listPairs_38 ?_
              refine lv_iconst (v := 0) hx hb d_Fs_listPairs_41 (by decide) ?_
              obtain ⟨x8, e_x8, hf⟩ := fh_b hf
              refine fh_aald S hE.1 hI 4 rfl e_x8 d_Fs_listPairs_42 ?_
              refine lv_iload_n hx hb d_Fs_listPairs_43 rfl (lv_at hl 1 rfl) ?_
              refine lv_iload_n hx hb d_Fs_listPairs_44 rfl (lv_at hl 2 rfl) ?_
              refine lv_iconst (v := 0) hx hb d_Fs_listPairs_45 (by decide) ?_
              obtain ⟨r9, e_r9, hf⟩ := fh_b hf
              refine fh_callSN (As := [.int v1, .int v2, .int 0]) (rest := [va_rf x8]) S fT_good hE hI (c_FF_pack e_r9) fy_FF_pack fst_FF_pack kn_3 ⟨rfl, rfl⟩ ⟨Nat.le_of_ble_eq_true rfl, Nat.le_of_ble_eq_true rfl⟩ ⟨Nat.zero_le _, Nat.zero_le _⟩ rfl hl.1 rfl (Nat.le_trans (fh_cat _) (Nat.le_of_ble_eq_true rfl)) d_Fs_listPairs_46 (fun H locs hI => ?_)
              obtain ⟨o10, e_o10, hf⟩ := fh_b hf
              obtain ⟨r11, e_r11, hf⟩ := fh_b hf
              refine fh_callV (As := [.int r9.1]) (rest := []) S fT_good hE hI e_o10 rfl (c_IL_add e_r11) fy_IL_add fst_IL_add k_102 ⟨rfl, rfl⟩ ⟨Nat.le_of_ble_eq_true rfl, Nat.le_of_ble_eq_true rfl⟩ ⟨Nat.zero_le _, Nat.zero_le _⟩ rfl hl.1 rfl (Nat.le_of_ble_eq_true rfl) d_Fs_listPairs_49 (fun H locs hI => ?_)
              exact B52 v1 v2 r11 _ _ _ (lv_sub hl [0, 1, 2] rfl) hI hf
      intro v1 h H locs ls hl hI hf
      have hf : b_Fs_listPairs_2 K N (l_Fs_listPairs_2 K N o n2) o v1 h = some res := hf
      unfold b_Fs_listPairs_2 at hf
      refine lv_iload_n hx hb d_Fs_listPairs_2 rfl (lv_at hl 1 rfl) ?_
      refine fh_aload_n S d_Fs_listPairs_3 rfl (lv_at hl 0 rfl) ?_
      obtain ⟨x1, e_x1, hf⟩ := fh_b hf
      refine fh_geti S hE.1 hI e_x1 (hc := rfl) (hin := in_2) (by decide) (hts _ k_38) d_Fs_listPairs_4 ?_
      refine lv_icmp_ge (tgt := 64) hx hb d_Fs_listPairs_7 (by decide) (fun c_7 => ?_) (fun c_7 => ?_)
      · replace hf := fh_t c_7 hf
        obtain rfl := Option.some.inj hf
        exact fh_vret S hr hk hAe hI d_Fs_listPairs_64
      · replace hf := fh_f c_7 hf
        refine lv_iload_n hx hb d_Fs_listPairs_10 rfl (lv_at hl 1 rfl) ?_
        refine lv_iconst (v := 1) hx hb d_Fs_listPairs_11 (by decide) ?_
        refine lv_iadd hx hb d_Fs_listPairs_12 ?_
        obtain ⟨x2, e_x2, hf⟩ := fh_b hf
        refine fh_topi e_x2 ?_
        refine lv_istore_n (lv' := [(2, .int x2), (0, va_rf (some o)), (1, .int v1)]) hx hb d_Fs_listPairs_13 rfl hl (by decide) rfl (fun ls hl => ?_)
        exact L14 N v1 x2 h _ _ _ (lv_sub hl [1, 2, 0] rfl) hI hf
  unfold f_Fs_listPairs at hf
  refine lv_iconst (v := 0) hx hb d_Fs_listPairs_0 (by decide) ?_
  refine lv_istore_n (lv' := [(1, .int 0), (0, va_rf (some o))]) hx hb d_Fs_listPairs_1 rfl hl (by decide) rfl (fun ls hl => ?_)
  exact L2 N 0 h0 _ _ _ (lv_sub hl [1, 0] rfl) hI hf
