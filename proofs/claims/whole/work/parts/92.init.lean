theorem ft_0 : ∀ g, g < 9 → ft_i 9 tb_0 (nI g) = some (nI (il_len g)) := by decide +kernel
theorem il_le9 : ∀ g, g < 9 → il_len g ≤ 7140 := by decide +kernel
theorem d_Fs_init_0 : decode c0_Fs_init 0 = .ok (.aload_n 0, 1) := by decide +kernel
theorem d_Fs_init_1 : decode c0_Fs_init 1 = .ok (.invokespecial 3, 3) := by decide +kernel
theorem d_Fs_init_4 : decode c0_Fs_init 4 = .ok (.aload_n 0, 1) := by decide +kernel
theorem d_Fs_init_5 : decode c0_Fs_init 5 = .ok (.new 9, 3) := by decide +kernel
theorem d_Fs_init_8 : decode c0_Fs_init 8 = .ok (.dup, 1) := by decide +kernel
theorem d_Fs_init_9 : decode c0_Fs_init 9 = .ok (.invokespecial 11, 3) := by decide +kernel
theorem d_Fs_init_12 : decode c0_Fs_init 12 = .ok (.putfield 12, 3) := by decide +kernel
theorem d_Fs_init_15 : decode c0_Fs_init 15 = .ok (.aload_n 0, 1) := by decide +kernel
theorem d_Fs_init_16 : decode c0_Fs_init 16 = .ok (.bipush 9, 2) := by decide +kernel
theorem d_Fs_init_18 : decode c0_Fs_init 18 = .ok (.anewarray 18, 3) := by decide +kernel
theorem d_Fs_init_21 : decode c0_Fs_init 21 = .ok (.putfield 20, 3) := by decide +kernel
theorem d_Fs_init_24 : decode c0_Fs_init 24 = .ok (.aload_n 0, 1) := by decide +kernel
theorem d_Fs_init_25 : decode c0_Fs_init 25 = .ok (.new 18, 3) := by decide +kernel
theorem d_Fs_init_28 : decode c0_Fs_init 28 = .ok (.dup, 1) := by decide +kernel
theorem d_Fs_init_29 : decode c0_Fs_init 29 = .ok (.bipush 45, 2) := by decide +kernel
theorem d_Fs_init_31 : decode c0_Fs_init 31 = .ok (.invokespecial 24, 3) := by decide +kernel
theorem d_Fs_init_34 : decode c0_Fs_init 34 = .ok (.putfield 27, 3) := by decide +kernel
theorem d_Fs_init_37 : decode c0_Fs_init 37 = .ok (.aload_n 0, 1) := by decide +kernel
theorem d_Fs_init_38 : decode c0_Fs_init 38 = .ok (.new 18, 3) := by decide +kernel
theorem d_Fs_init_41 : decode c0_Fs_init 41 = .ok (.dup, 1) := by decide +kernel
theorem d_Fs_init_42 : decode c0_Fs_init 42 = .ok (.bipush 120, 2) := by decide +kernel
theorem d_Fs_init_44 : decode c0_Fs_init 44 = .ok (.invokespecial 24, 3) := by decide +kernel
theorem d_Fs_init_47 : decode c0_Fs_init 47 = .ok (.putfield 31, 3) := by decide +kernel
theorem d_Fs_init_50 : decode c0_Fs_init 50 = .ok (.aload_n 0, 1) := by decide +kernel
theorem d_Fs_init_51 : decode c0_Fs_init 51 = .ok (.bipush 16, 2) := by decide +kernel
theorem d_Fs_init_53 : decode c0_Fs_init 53 = .ok (.newarray .int, 2) := by decide +kernel
theorem d_Fs_init_55 : decode c0_Fs_init 55 = .ok (.putfield 34, 3) := by decide +kernel
theorem d_Fs_init_58 : decode c0_Fs_init 58 = .ok (.aload_n 0, 1) := by decide +kernel
theorem d_Fs_init_59 : decode c0_Fs_init 59 = .ok (.new 18, 3) := by decide +kernel
theorem d_Fs_init_62 : decode c0_Fs_init 62 = .ok (.dup, 1) := by decide +kernel
theorem d_Fs_init_63 : decode c0_Fs_init 63 = .ok (.bipush 120, 2) := by decide +kernel
theorem d_Fs_init_65 : decode c0_Fs_init 65 = .ok (.invokespecial 24, 3) := by decide +kernel
theorem d_Fs_init_68 : decode c0_Fs_init 68 = .ok (.putfield 38, 3) := by decide +kernel
theorem d_Fs_init_71 : decode c0_Fs_init 71 = .ok (.aload_n 0, 1) := by decide +kernel
theorem d_Fs_init_72 : decode c0_Fs_init 72 = .ok (.bipush 120, 2) := by decide +kernel
theorem d_Fs_init_74 : decode c0_Fs_init 74 = .ok (.newarray .long, 2) := by decide +kernel
theorem d_Fs_init_76 : decode c0_Fs_init 76 = .ok (.putfield 41, 3) := by decide +kernel
theorem d_Fs_init_79 : decode c0_Fs_init 79 = .ok (.iconst 0, 1) := by decide +kernel
theorem d_Fs_init_80 : decode c0_Fs_init 80 = .ok (.istore_n 1, 1) := by decide +kernel
theorem d_Fs_init_87 : decode c0_Fs_init 87 = .ok (.aload_n 0, 1) := by decide +kernel
theorem d_Fs_init_88 : decode c0_Fs_init 88 = .ok (.getfield 20, 3) := by decide +kernel
theorem d_Fs_init_91 : decode c0_Fs_init 91 = .ok (.iload_n 1, 1) := by decide +kernel
theorem d_Fs_init_92 : decode c0_Fs_init 92 = .ok (.new 18, 3) := by decide +kernel
theorem d_Fs_init_95 : decode c0_Fs_init 95 = .ok (.dup, 1) := by decide +kernel
theorem d_Fs_init_96 : decode c0_Fs_init 96 = .ok (.getstatic 45, 3) := by decide +kernel
theorem d_Fs_init_99 : decode c0_Fs_init 99 = .ok (.iload_n 1, 1) := by decide +kernel
theorem d_Fs_init_100 : decode c0_Fs_init 100 = .ok (.iaload, 1) := by decide +kernel
theorem d_Fs_init_101 : decode c0_Fs_init 101 = .ok (.invokespecial 24, 3) := by decide +kernel
theorem d_Fs_init_104 : decode c0_Fs_init 104 = .ok (.aastore, 1) := by decide +kernel
theorem d_Fs_init_105 : decode c0_Fs_init 105 = .ok (.iinc 1 1, 3) := by decide +kernel
theorem d_Fs_init_108 : decode c0_Fs_init 108 = .ok (.goto (-27), 3) := by decide +kernel
theorem d_Fs_init_81 : decode c0_Fs_init 81 = .ok (.iload_n 1, 1) := by decide +kernel
theorem d_Fs_init_82 : decode c0_Fs_init 82 = .ok (.bipush 9, 2) := by decide +kernel
theorem d_Fs_init_84 : decode c0_Fs_init 84 = .ok (.if_icmp .ge 27, 3) := by decide +kernel
theorem d_Fs_init_111 : decode c0_Fs_init 111 = .ok (.return_, 1) := by decide +kernel
set_option maxHeartbeats 4000000 in
set_option maxRecDepth 100000 in
theorem c_Fs_init {l : Launch} {D : va_G} {K : Nat → ClassId} {t : Nat → Nat} {o : Nat} {h0 : fh_H} {P : fh_H → Prop} (hf : wf_Fs K o h0 P) : fW l D K t y_Fs_init c0_Fs_init 2 rn_Fs [.ref o] h0 P 44 86054 := by
  refine fh_bodyW (by decide) (Nat.le_of_ble_eq_true rfl) ?_
  intro p e s m below meth c A ls S hr hk hnm hE hAe hI hl
  obtain ⟨hx, hb, hml, hown, hts⟩ := id S
  have hl : lv_has ls 2 [(0, va_rf (some o))] := hl
  have L81 : ∀ (mm g : Nat) (h : fh_H) (H : Heap) (locs : List Loc) (ls : Array Slot), g + mm = 9 → fh_I D classes A s.heap h H locs → lv_has ls 2 [(1, .int (nI g)), (0, va_rf (some o))] → wl_Fs K o mm g h P → W p l e rn_Fs s m [Value.ref o].toArray below meth c H locs (26 + 2 * g) (21776 + 7142 * g) (MQ below (fun a st oc t => ∃ h', P h' ∧ fh_Q D classes h0 s.heap.size none h' a st oc t) [Value.ref o].toArray s 44 86054 A) (F0 m 81 ls []) := by
    intro mm
    induction mm with
    | zero =>
      intro g h H locs ls hg hI hl hf
      have hg5 : g = 9 := by omega
      subst hg5
      refine lv_iload_n hx hb d_Fs_init_81 rfl (lv_at hl 0 rfl) ?_
      refine lv_bipush (v := 9) hx hb d_Fs_init_82 (by decide) ?_
      refine lv_icmp_ge (tgt := 111) hx hb d_Fs_init_84 (by decide) (fun _ => ?_) (fun c_26 => ?_)
      · exact fh_vretW S hr hk hAe hI hf d_Fs_init_111
      · exact absurd (by decide) c_26
    | succ mm ih =>
      intro g h H locs ls hg hI hl hf
      refine lv_iload_n hx hb d_Fs_init_81 rfl (lv_at hl 0 rfl) ?_
      refine lv_bipush (v := 9) hx hb d_Fs_init_82 (by decide) ?_
      refine lv_icmp_ge (tgt := 111) hx hb d_Fs_init_84 (by decide) (fun c_26 => ?_) (fun _ => ?_)
      · exact absurd c_26 (nI_ge (a := g) (b := 9) (by omega) (by decide))
      unfold wl_Fs wN at hf
      refine fh_aload_n S d_Fs_init_87 rfl (lv_at hl 1 rfl) ?_
      obtain ⟨sh, e_sh, hf⟩ := hf
      refine fh_geta S hE.1 hI e_sh (hc := rfl) (hin := in_2) (by decide) (hts _ k_101) d_Fs_init_88 ?_
      refine lv_iload_n hx hb d_Fs_init_91 rfl (lv_at hl 0 rfl) ?_
      refine fh_new S hE hI (ci := 5) rfl in_5 tok_5 k_711 k_679 k_372 (fs := [.null, .int 0]) (by decide +kernel) (by show 26 + 2 * g + 1 ≤ 44; omega) (by show 21776 + 7142 * g + 2 ≤ 86054; omega) d_Fs_init_92 (fun q1 H f_q1 hI => ?_)
      replace hf := hf q1 f_q1
      refine lv_dup hx hb d_Fs_init_95 rfl ?_
      refine fh_gettN S hE.2.1 hI (k := 0) rfl (hE.2.2.1 _ kw_12).2 d_Fs_init_96 ?_
      refine lv_iload_n hx hb d_Fs_init_99 rfl (lv_at hl 0 rfl) ?_
      refine fh_tald S hE.2.1 hI (k := 0) rfl (ft_0 g (by omega)) d_Fs_init_100 ?_
      refine fh_callI (As := [.int (nI (il_len g))]) (rest := [.ref q1, .int (nI g), va_rf sh]) S fT_good hE hI (c_IL_init (il_le9 g (by omega)) hf) fy_IL_init rfl k_713 k_712 ⟨rfl, rfl⟩ ⟨Nat.le_of_ble_eq_true rfl, Nat.le_of_ble_eq_true rfl⟩ ⟨by show 26 + 2 * g + 1 + 1 ≤ 44; omega, by show 21776 + 7142 * g + 2 + 7140 ≤ 86054; omega⟩ rfl hl.1 rfl (Nat.le_trans (fh_cat _) (Nat.le_of_ble_eq_true rfl)) d_Fs_init_101 (fun hh H locs hf hI => ?_)
      obtain ⟨h2, e_h2, hf⟩ := hf
      refine fh_aast S hE.1 hI 4 rfl rfl e_h2 d_Fs_init_104 (fun H locs hI => ?_)
      refine lv_iinc (v := nI (g + 1)) (lv' := [(1, .int (nI (g + 1))), (0, va_rf (some o))]) hx hb d_Fs_init_105 hl (k := 0) rfl (by rw [← nI_1]; rfl) (by decide) rfl (fun ls hl => ?_)
      refine lv_goto (tgt := 81) hx hb d_Fs_init_108 (by decide) ?_
      have W2 := ih (g + 1) h2 H locs ls (by omega) hI hl hf
      rw [show 26 + 2 * (g + 1) = 26 + 2 * g + 1 + 1 from by omega, show 21776 + 7142 * (g + 1) = 21776 + 7142 * g + 2 + 7140 from by omega] at W2
      exact W2
  unfold wf_Fs wN wP at hf
  refine fh_aload_n S d_Fs_init_0 rfl (lv_at hl 0 rfl) ?_
  refine fh_oinit S k_701 k_755 k_754 hl.1 d_Fs_init_1 (by decide) (by decide) ?_
  refine fh_aload_n S d_Fs_init_4 rfl (lv_at hl 0 rfl) ?_
  refine fh_new S hE hI (ci := 3) rfl in_3 tok_3 k_702 k_677 k_216 (fs := [.null, .int 0, .int 0, .long 0, .long 0]) (by decide +kernel) (Nat.le_of_ble_eq_true rfl) (Nat.le_of_ble_eq_true rfl) d_Fs_init_5 (fun q1 H f_q1 hI => ?_)
  replace hf := hf q1 f_q1
  refine lv_dup hx hb d_Fs_init_8 rfl ?_
  refine fh_callI (As := []) (rest := [.ref q1, va_rf (some o)]) S fT_good hE hI (c_Dr_init hf) fy_Dr_init rfl k_704 k_703 ⟨rfl, rfl⟩ ⟨Nat.le_of_ble_eq_true rfl, Nat.le_of_ble_eq_true rfl⟩ ⟨Nat.le_of_ble_eq_true rfl, Nat.le_of_ble_eq_true rfl⟩ rfl hl.1 rfl (Nat.le_trans (fh_cat _) (Nat.le_of_ble_eq_true rfl)) d_Fs_init_9 (fun hh H locs hf hI => ?_)
  obtain ⟨h2, e_h2, hf⟩ := hf
  refine fh_putf S hE.1 hI e_h2 (hc := rfl) (hin := in_2) tok_2 nok_2 (by decide) (hts _ k_64) rfl hnm rfl rfl rfl d_Fs_init_12 (fun H locs hI => ?_)
  refine fh_aload_n S d_Fs_init_15 rfl (lv_at hl 0 rfl) ?_
  refine lv_bipush (v := 9) hx hb d_Fs_init_16 (by decide) ?_
  refine fh_newq S hE hI (N' := 9) 4 rfl k_711 kw_9 (by decide) (by decide) (by decide) (Nat.le_of_ble_eq_true rfl) (Nat.le_of_ble_eq_true rfl) d_Fs_init_18 (fun q3 H f_q3 hI => ?_)
  replace hf := hf q3 f_q3
  obtain ⟨h4, e_h4, hf⟩ := hf
  refine fh_putf S hE.1 hI e_h4 (hc := rfl) (hin := in_2) tok_2 nok_2 (by decide) (hts _ k_101) rfl hnm rfl rfl rfl d_Fs_init_21 (fun H locs hI => ?_)
  refine fh_aload_n S d_Fs_init_24 rfl (lv_at hl 0 rfl) ?_
  refine fh_new S hE hI (ci := 5) rfl in_5 tok_5 k_711 k_679 k_372 (fs := [.null, .int 0]) (by decide +kernel) (Nat.le_of_ble_eq_true rfl) (Nat.le_of_ble_eq_true rfl) d_Fs_init_25 (fun q5 H f_q5 hI => ?_)
  replace hf := hf q5 f_q5
  refine lv_dup hx hb d_Fs_init_28 rfl ?_
  refine lv_bipush (v := 45) hx hb d_Fs_init_29 (by decide) ?_
  rw [show (45 : Int32) = nI 45 from rfl]
  refine fh_callI (As := [.int (nI 45)]) (rest := [.ref q5, va_rf (some o)]) S fT_good hE hI (c_IL_init (by omega) hf) fy_IL_init rfl k_713 k_712 ⟨rfl, rfl⟩ ⟨Nat.le_of_ble_eq_true rfl, Nat.le_of_ble_eq_true rfl⟩ ⟨Nat.le_of_ble_eq_true rfl, Nat.le_of_ble_eq_true rfl⟩ rfl hl.1 rfl (Nat.le_trans (fh_cat _) (Nat.le_of_ble_eq_true rfl)) d_Fs_init_31 (fun hh H locs hf hI => ?_)
  obtain ⟨h6, e_h6, hf⟩ := hf
  refine fh_putf S hE.1 hI e_h6 (hc := rfl) (hin := in_2) tok_2 nok_2 (by decide) (hts _ k_127) rfl hnm rfl rfl rfl d_Fs_init_34 (fun H locs hI => ?_)
  refine fh_aload_n S d_Fs_init_37 rfl (lv_at hl 0 rfl) ?_
  refine fh_new S hE hI (ci := 5) rfl in_5 tok_5 k_711 k_679 k_372 (fs := [.null, .int 0]) (by decide +kernel) (Nat.le_of_ble_eq_true rfl) (Nat.le_of_ble_eq_true rfl) d_Fs_init_38 (fun q7 H f_q7 hI => ?_)
  replace hf := hf q7 f_q7
  refine lv_dup hx hb d_Fs_init_41 rfl ?_
  refine lv_bipush (v := 120) hx hb d_Fs_init_42 (by decide) ?_
  rw [show (120 : Int32) = nI 120 from rfl]
  refine fh_callI (As := [.int (nI 120)]) (rest := [.ref q7, va_rf (some o)]) S fT_good hE hI (c_IL_init (by omega) hf) fy_IL_init rfl k_713 k_712 ⟨rfl, rfl⟩ ⟨Nat.le_of_ble_eq_true rfl, Nat.le_of_ble_eq_true rfl⟩ ⟨Nat.le_of_ble_eq_true rfl, Nat.le_of_ble_eq_true rfl⟩ rfl hl.1 rfl (Nat.le_trans (fh_cat _) (Nat.le_of_ble_eq_true rfl)) d_Fs_init_44 (fun hh H locs hf hI => ?_)
  obtain ⟨h8, e_h8, hf⟩ := hf
  refine fh_putf S hE.1 hI e_h8 (hc := rfl) (hin := in_2) tok_2 nok_2 (by decide) (hts _ k_131) rfl hnm rfl rfl rfl d_Fs_init_47 (fun H locs hI => ?_)
  refine fh_aload_n S d_Fs_init_50 rfl (lv_at hl 0 rfl) ?_
  refine lv_bipush (v := 16) hx hb d_Fs_init_51 (by decide) ?_
  refine fh_newa S hE hI (atype := .int) (a0 := zI 16) 0 rfl k_681 rfl (fun _ => rfl) (by decide) (by decide) (by decide) (Nat.le_of_ble_eq_true rfl) (Nat.le_of_ble_eq_true rfl) d_Fs_init_53 (fun q9 H f_q9 hI => ?_)
  replace hf := hf q9 f_q9
  obtain ⟨h10, e_h10, hf⟩ := hf
  refine fh_putf S hE.1 hI e_h10 (hc := rfl) (hin := in_2) tok_2 nok_2 (by decide) (hts _ k_63) rfl hnm rfl rfl rfl d_Fs_init_55 (fun H locs hI => ?_)
  refine fh_aload_n S d_Fs_init_58 rfl (lv_at hl 0 rfl) ?_
  refine fh_new S hE hI (ci := 5) rfl in_5 tok_5 k_711 k_679 k_372 (fs := [.null, .int 0]) (by decide +kernel) (Nat.le_of_ble_eq_true rfl) (Nat.le_of_ble_eq_true rfl) d_Fs_init_59 (fun q11 H f_q11 hI => ?_)
  replace hf := hf q11 f_q11
  refine lv_dup hx hb d_Fs_init_62 rfl ?_
  refine lv_bipush (v := 120) hx hb d_Fs_init_63 (by decide) ?_
  rw [show (120 : Int32) = nI 120 from rfl]
  refine fh_callI (As := [.int (nI 120)]) (rest := [.ref q11, va_rf (some o)]) S fT_good hE hI (c_IL_init (by omega) hf) fy_IL_init rfl k_713 k_712 ⟨rfl, rfl⟩ ⟨Nat.le_of_ble_eq_true rfl, Nat.le_of_ble_eq_true rfl⟩ ⟨Nat.le_of_ble_eq_true rfl, Nat.le_of_ble_eq_true rfl⟩ rfl hl.1 rfl (Nat.le_trans (fh_cat _) (Nat.le_of_ble_eq_true rfl)) d_Fs_init_65 (fun hh H locs hf hI => ?_)
  obtain ⟨h12, e_h12, hf⟩ := hf
  refine fh_putf S hE.1 hI e_h12 (hc := rfl) (hin := in_2) tok_2 nok_2 (by decide) (hts _ k_105) rfl hnm rfl rfl rfl d_Fs_init_68 (fun H locs hI => ?_)
  refine fh_aload_n S d_Fs_init_71 rfl (lv_at hl 0 rfl) ?_
  refine lv_bipush (v := 120) hx hb d_Fs_init_72 (by decide) ?_
  refine fh_newa S hE hI (atype := .long) (a0 := zL 120) 1 rfl k_682 rfl (fun _ => rfl) (by decide) (by decide) (by decide) (Nat.le_of_ble_eq_true rfl) (Nat.le_of_ble_eq_true rfl) d_Fs_init_74 (fun q13 H f_q13 hI => ?_)
  replace hf := hf q13 f_q13
  obtain ⟨h14, e_h14, hf⟩ := hf
  refine fh_putf S hE.1 hI e_h14 (hc := rfl) (hin := in_2) tok_2 nok_2 (by decide) (hts _ k_107) rfl hnm rfl rfl rfl d_Fs_init_76 (fun H locs hI => ?_)
  refine lv_iconst (v := 0) hx hb d_Fs_init_79 (by decide) ?_
  refine lv_istore_n (lv' := [(1, .int 0), (0, va_rf (some o))]) hx hb d_Fs_init_80 rfl hl (by decide) rfl (fun ls hl => ?_)
  exact L81 9 0 _ H _ ls (by omega) hI hl hf
theorem d_FF_init_0 : decode c0_FF_init 0 = .ok (.aload_n 0, 1) := by decide +kernel
theorem d_FF_init_1 : decode c0_FF_init 1 = .ok (.invokespecial 1, 3) := by decide +kernel
theorem d_FF_init_4 : decode c0_FF_init 4 = .ok (.aload_n 0, 1) := by decide +kernel
theorem d_FF_init_5 : decode c0_FF_init 5 = .ok (.new 7, 3) := by decide +kernel
theorem d_FF_init_8 : decode c0_FF_init 8 = .ok (.dup, 1) := by decide +kernel
theorem d_FF_init_9 : decode c0_FF_init 9 = .ok (.invokespecial 9, 3) := by decide +kernel
theorem d_FF_init_12 : decode c0_FF_init 12 = .ok (.putfield 10, 3) := by decide +kernel
theorem d_FF_init_15 : decode c0_FF_init 15 = .ok (.aload_n 0, 1) := by decide +kernel
theorem d_FF_init_16 : decode c0_FF_init 16 = .ok (.new 16, 3) := by decide +kernel
theorem d_FF_init_19 : decode c0_FF_init 19 = .ok (.dup, 1) := by decide +kernel
theorem d_FF_init_20 : decode c0_FF_init 20 = .ok (.invokespecial 18, 3) := by decide +kernel
theorem d_FF_init_23 : decode c0_FF_init 23 = .ok (.putfield 19, 3) := by decide +kernel
theorem d_FF_init_26 : decode c0_FF_init 26 = .ok (.aload_n 0, 1) := by decide +kernel
theorem d_FF_init_27 : decode c0_FF_init 27 = .ok (.new 23, 3) := by decide +kernel
theorem d_FF_init_30 : decode c0_FF_init 30 = .ok (.dup, 1) := by decide +kernel
theorem d_FF_init_31 : decode c0_FF_init 31 = .ok (.invokespecial 25, 3) := by decide +kernel
theorem d_FF_init_34 : decode c0_FF_init 34 = .ok (.putfield 26, 3) := by decide +kernel
theorem d_FF_init_37 : decode c0_FF_init 37 = .ok (.aload_n 0, 1) := by decide +kernel
theorem d_FF_init_38 : decode c0_FF_init 38 = .ok (.iconst 1, 1) := by decide +kernel
theorem d_FF_init_39 : decode c0_FF_init 39 = .ok (.putfield 30, 3) := by decide +kernel
theorem d_FF_init_42 : decode c0_FF_init 42 = .ok (.aload_n 0, 1) := by decide +kernel
theorem d_FF_init_43 : decode c0_FF_init 43 = .ok (.iconst 1, 1) := by decide +kernel
theorem d_FF_init_44 : decode c0_FF_init 44 = .ok (.putfield 34, 3) := by decide +kernel
theorem d_FF_init_47 : decode c0_FF_init 47 = .ok (.aload_n 0, 1) := by decide +kernel
theorem d_FF_init_48 : decode c0_FF_init 48 = .ok (.invokevirtual 37, 3) := by decide +kernel
theorem d_FF_init_51 : decode c0_FF_init 51 = .ok (.return_, 1) := by decide +kernel
set_option maxHeartbeats 4000000 in
set_option maxRecDepth 100000 in
theorem c_FF_init {l : Launch} {D : va_G} {K : Nat → ClassId} {t : Nat → Nat} {o : Nat} {N : Nat} {h0 : fh_H} {P : fh_H → Prop} (hf : wf_FF K N o h0 P) : fW l D K t y_FF_init c0_FF_init 1 rn_FF [.ref o] h0 P 65 86321 := by
  refine fh_bodyW (by decide) (Nat.le_of_ble_eq_true rfl) ?_
  intro p e s m below meth c A ls S hr hk hnm hE hAe hI hl
  obtain ⟨hx, hb, hml, hown, hts⟩ := id S
  have hl : lv_has ls 1 [(0, va_rf (some o))] := hl
  unfold wf_FF wN wP at hf
  refine fh_aload_n S d_FF_init_0 rfl (lv_at hl 0 rfl) ?_
  refine fh_oinit S k_690 k_755 k_754 hl.1 d_FF_init_1 (by decide) (by decide) ?_
  refine fh_aload_n S d_FF_init_4 rfl (lv_at hl 0 rfl) ?_
  refine fh_new S hE hI (ci := 1) rfl in_1 tok_1 k_693 k_675 k_220 (fs := [.null, .null, .int 0]) (by decide +kernel) (Nat.le_of_ble_eq_true rfl) (Nat.le_of_ble_eq_true rfl) d_FF_init_5 (fun q1 H f_q1 hI => ?_)
  replace hf := hf q1 f_q1
  refine lv_dup hx hb d_FF_init_8 rfl ?_
  refine fh_callIN (As := []) (rest := [.ref q1, va_rf (some o)]) S fT_good hE hI (c_Pl_init hf) fy_Pl_init rfl k_694 kw_10 ⟨rfl, rfl⟩ ⟨Nat.le_of_ble_eq_true rfl, Nat.le_of_ble_eq_true rfl⟩ ⟨Nat.le_of_ble_eq_true rfl, Nat.le_of_ble_eq_true rfl⟩ rfl hl.1 rfl (Nat.le_trans (fh_cat _) (Nat.le_of_ble_eq_true rfl)) d_FF_init_9 (fun hh H locs hf hI => ?_)
  obtain ⟨h2, e_h2, hf⟩ := hf
  refine fh_putf S hE.1 hI e_h2 (hc := rfl) (hin := in_0) tok_0 nok_0 (by decide) (hts _ k_45) rfl hnm rfl rfl rfl d_FF_init_12 (fun H locs hI => ?_)
  refine fh_aload_n S d_FF_init_15 rfl (lv_at hl 0 rfl) ?_
  refine fh_new S hE hI (ci := 2) rfl in_2 tok_2 k_697 k_676 k_269 (fs := [.null, .null, .null, .null, .null, .null, .null, .int 0, .int 0]) (by decide +kernel) (Nat.le_of_ble_eq_true rfl) (Nat.le_of_ble_eq_true rfl) d_FF_init_16 (fun q3 H f_q3 hI => ?_)
  replace hf := hf q3 f_q3
  refine lv_dup hx hb d_FF_init_19 rfl ?_
  refine fh_callI (As := []) (rest := [.ref q3, va_rf (some o)]) S fT_good hE hI (c_Fs_init hf) fy_Fs_init rfl k_699 k_698 ⟨rfl, rfl⟩ ⟨Nat.le_of_ble_eq_true rfl, Nat.le_of_ble_eq_true rfl⟩ ⟨Nat.le_of_ble_eq_true rfl, Nat.le_of_ble_eq_true rfl⟩ rfl hl.1 rfl (Nat.le_trans (fh_cat _) (Nat.le_of_ble_eq_true rfl)) d_FF_init_20 (fun hh H locs hf hI => ?_)
  obtain ⟨h4, e_h4, hf⟩ := hf
  refine fh_putf S hE.1 hI e_h4 (hc := rfl) (hin := in_0) tok_0 nok_0 (by decide) (hts _ k_40) rfl hnm rfl rfl rfl d_FF_init_23 (fun H locs hI => ?_)
  refine fh_aload_n S d_FF_init_26 rfl (lv_at hl 0 rfl) ?_
  refine fh_new S hE hI (ci := 3) rfl in_3 tok_3 k_719 k_677 k_216 (fs := [.null, .int 0, .int 0, .long 0, .long 0]) (by decide +kernel) (Nat.le_of_ble_eq_true rfl) (Nat.le_of_ble_eq_true rfl) d_FF_init_27 (fun q5 H f_q5 hI => ?_)
  replace hf := hf q5 f_q5
  refine lv_dup hx hb d_FF_init_30 rfl ?_
  refine fh_callI (As := []) (rest := [.ref q5, va_rf (some o)]) S fT_good hE hI (c_Dr_init hf) fy_Dr_init rfl k_704 k_720 ⟨rfl, rfl⟩ ⟨Nat.le_of_ble_eq_true rfl, Nat.le_of_ble_eq_true rfl⟩ ⟨Nat.le_of_ble_eq_true rfl, Nat.le_of_ble_eq_true rfl⟩ rfl hl.1 rfl (Nat.le_trans (fh_cat _) (Nat.le_of_ble_eq_true rfl)) d_FF_init_31 (fun hh H locs hf hI => ?_)
  obtain ⟨h6, e_h6, hf⟩ := hf
  refine fh_putf S hE.1 hI e_h6 (hc := rfl) (hin := in_0) tok_0 nok_0 (by decide) (hts _ k_126) rfl hnm rfl rfl rfl d_FF_init_34 (fun H locs hI => ?_)
  refine fh_aload_n S d_FF_init_37 rfl (lv_at hl 0 rfl) ?_
  refine lv_iconst (v := 1) hx hb d_FF_init_38 (by decide) ?_
  obtain ⟨h7, e_h7, hf⟩ := hf
  refine fh_putv S hE.1 hI e_h7 (hc := rfl) (hin := in_0) tok_0 nok_0 (by decide) (hts _ k_42) rfl rfl rfl d_FF_init_39 (fun H locs hI => ?_)
  refine fh_aload_n S d_FF_init_42 rfl (lv_at hl 0 rfl) ?_
  refine lv_iconst (v := 1) hx hb d_FF_init_43 (by decide) ?_
  obtain ⟨h8, e_h8, hf⟩ := hf
  refine fh_putv S hE.1 hI e_h8 (hc := rfl) (hin := in_0) tok_0 nok_0 (by decide) (hts _ k_43) rfl rfl rfl d_FF_init_44 (fun H locs hI => ?_)
  refine fh_aload_n S d_FF_init_47 rfl (lv_at hl 0 rfl) ?_
  obtain ⟨h8, e_8, b, e_b, h9, e_9, hf⟩ := hf
  have hI := fh_weq hI e_8
  refine fh_callV (As := []) (rest := []) S fT_good (hE.nw nw_sub) hI e_b rfl (c_FF_drawAll e_9) fy_FF_drawAll fst_FF_drawAll k_49 ⟨rfl, rfl⟩ ⟨Nat.le_of_ble_eq_true rfl, Nat.le_of_ble_eq_true rfl⟩ ⟨Nat.le_of_ble_eq_true rfl, Nat.le_of_ble_eq_true rfl⟩ rfl hl.1 rfl (Nat.le_of_ble_eq_true rfl) d_FF_init_48 (fun H locs hI => ?_)
  exact fh_vretW S hr hk hAe hI hf d_FF_init_51
theorem d_Mo_init_0 : decode c0_Mo_init 0 = .ok (.aload_n 0, 1) := by decide +kernel
theorem d_Mo_init_1 : decode c0_Mo_init 1 = .ok (.invokespecial 1, 3) := by decide +kernel
theorem d_Mo_init_4 : decode c0_Mo_init 4 = .ok (.aload_n 0, 1) := by decide +kernel
theorem d_Mo_init_5 : decode c0_Mo_init 5 = .ok (.bipush 10, 2) := by decide +kernel
theorem d_Mo_init_7 : decode c0_Mo_init 7 = .ok (.newarray .int, 2) := by decide +kernel
theorem d_Mo_init_9 : decode c0_Mo_init 9 = .ok (.putfield 7, 3) := by decide +kernel
theorem d_Mo_init_12 : decode c0_Mo_init 12 = .ok (.aload_n 0, 1) := by decide +kernel
theorem d_Mo_init_13 : decode c0_Mo_init 13 = .ok (.bipush 40, 2) := by decide +kernel
theorem d_Mo_init_15 : decode c0_Mo_init 15 = .ok (.newarray .int, 2) := by decide +kernel
theorem d_Mo_init_17 : decode c0_Mo_init 17 = .ok (.putfield 13, 3) := by decide +kernel
theorem d_Mo_init_20 : decode c0_Mo_init 20 = .ok (.aload_n 0, 1) := by decide +kernel
theorem d_Mo_init_21 : decode c0_Mo_init 21 = .ok (.iconst 1, 1) := by decide +kernel
theorem d_Mo_init_22 : decode c0_Mo_init 22 = .ok (.putfield 16, 3) := by decide +kernel
theorem d_Mo_init_25 : decode c0_Mo_init 25 = .ok (.aload_n 0, 1) := by decide +kernel
theorem d_Mo_init_26 : decode c0_Mo_init 26 = .ok (.iconst 1, 1) := by decide +kernel
theorem d_Mo_init_27 : decode c0_Mo_init 27 = .ok (.putfield 20, 3) := by decide +kernel
theorem d_Mo_init_30 : decode c0_Mo_init 30 = .ok (.aload_n 0, 1) := by decide +kernel
theorem d_Mo_init_31 : decode c0_Mo_init 31 = .ok (.bipush 50, 2) := by decide +kernel
theorem d_Mo_init_33 : decode c0_Mo_init 33 = .ok (.newarray .long, 2) := by decide +kernel
theorem d_Mo_init_35 : decode c0_Mo_init 35 = .ok (.putfield 23, 3) := by decide +kernel
theorem d_Mo_init_38 : decode c0_Mo_init 38 = .ok (.aload_n 0, 1) := by decide +kernel
theorem d_Mo_init_39 : decode c0_Mo_init 39 = .ok (.bipush 50, 2) := by decide +kernel
theorem d_Mo_init_41 : decode c0_Mo_init 41 = .ok (.newarray .long, 2) := by decide +kernel
theorem d_Mo_init_43 : decode c0_Mo_init 43 = .ok (.putfield 27, 3) := by decide +kernel
theorem d_Mo_init_46 : decode c0_Mo_init 46 = .ok (.aload_n 0, 1) := by decide +kernel
theorem d_Mo_init_47 : decode c0_Mo_init 47 = .ok (.iconst 5, 1) := by decide +kernel
theorem d_Mo_init_48 : decode c0_Mo_init 48 = .ok (.newarray .int, 2) := by decide +kernel
theorem d_Mo_init_50 : decode c0_Mo_init 50 = .ok (.putfield 30, 3) := by decide +kernel
theorem d_Mo_init_53 : decode c0_Mo_init 53 = .ok (.aload_n 0, 1) := by decide +kernel
theorem d_Mo_init_54 : decode c0_Mo_init 54 = .ok (.bipush 6, 2) := by decide +kernel
theorem d_Mo_init_56 : decode c0_Mo_init 56 = .ok (.newarray .int, 2) := by decide +kernel
theorem d_Mo_init_58 : decode c0_Mo_init 58 = .ok (.putfield 33, 3) := by decide +kernel
theorem d_Mo_init_61 : decode c0_Mo_init 61 = .ok (.aload_n 0, 1) := by decide +kernel
theorem d_Mo_init_62 : decode c0_Mo_init 62 = .ok (.bipush 100, 2) := by decide +kernel
theorem d_Mo_init_64 : decode c0_Mo_init 64 = .ok (.newarray .boolean, 2) := by decide +kernel
theorem d_Mo_init_66 : decode c0_Mo_init 66 = .ok (.putfield 36, 3) := by decide +kernel
theorem d_Mo_init_69 : decode c0_Mo_init 69 = .ok (.aload_n 0, 1) := by decide +kernel
theorem d_Mo_init_70 : decode c0_Mo_init 70 = .ok (.bipush 6, 2) := by decide +kernel
theorem d_Mo_init_72 : decode c0_Mo_init 72 = .ok (.newarray .int, 2) := by decide +kernel
theorem d_Mo_init_74 : decode c0_Mo_init 74 = .ok (.putfield 40, 3) := by decide +kernel
theorem d_Mo_init_77 : decode c0_Mo_init 77 = .ok (.aload_n 0, 1) := by decide +kernel
theorem d_Mo_init_78 : decode c0_Mo_init 78 = .ok (.sipush 1024, 3) := by decide +kernel
theorem d_Mo_init_81 : decode c0_Mo_init 81 = .ok (.newarray .boolean, 2) := by decide +kernel
theorem d_Mo_init_83 : decode c0_Mo_init 83 = .ok (.putfield 43, 3) := by decide +kernel
theorem d_Mo_init_86 : decode c0_Mo_init 86 = .ok (.aload_n 0, 1) := by decide +kernel
theorem d_Mo_init_87 : decode c0_Mo_init 87 = .ok (.invokevirtual 46, 3) := by decide +kernel
theorem d_Mo_init_90 : decode c0_Mo_init 90 = .ok (.return_, 1) := by decide +kernel
set_option maxHeartbeats 4000000 in
set_option maxRecDepth 100000 in
theorem c_Mo_init {l : Launch} {D : va_G} {K : Nat → ClassId} {t : Nat → Nat} {o : Nat} {N : Nat} {h0 : fh_H} {P : fh_H → Prop} (hf : wf_Mo K N o h0 P) : fW l D K t y_Mo_init c0_Mo_init 1 rn_Mo [.ref o] h0 P 9 1291 := by
  refine fh_bodyW (by decide) (Nat.le_of_ble_eq_true rfl) ?_
  intro p e s m below meth c A ls S hr hk hnm hE hAe hI hl
  obtain ⟨hx, hb, hml, hown, hts⟩ := id S
  have hl : lv_has ls 1 [(0, va_rf (some o))] := hl
  unfold wf_Mo wN wP at hf
  refine fh_aload_n S d_Mo_init_0 rfl (lv_at hl 0 rfl) ?_
  refine fh_oinit S k_739 k_755 k_754 hl.1 d_Mo_init_1 (by decide) (by decide) ?_
  refine fh_aload_n S d_Mo_init_4 rfl (lv_at hl 0 rfl) ?_
  refine lv_bipush (v := 10) hx hb d_Mo_init_5 (by decide) ?_
  refine fh_newa S hE hI (atype := .int) (a0 := zI 10) 0 rfl k_681 rfl (fun _ => rfl) (by decide) (by decide) (by decide) (Nat.le_of_ble_eq_true rfl) (Nat.le_of_ble_eq_true rfl) d_Mo_init_7 (fun q1 H f_q1 hI => ?_)
  replace hf := hf q1 f_q1
  obtain ⟨h2, e_h2, hf⟩ := hf
  refine fh_putf S hE.1 hI e_h2 (hc := rfl) (hin := in_6) tok_6 nok_6 (by decide) (hts _ k_164) rfl hnm rfl rfl rfl d_Mo_init_9 (fun H locs hI => ?_)
  refine fh_aload_n S d_Mo_init_12 rfl (lv_at hl 0 rfl) ?_
  refine lv_bipush (v := 40) hx hb d_Mo_init_13 (by decide) ?_
  refine fh_newa S hE hI (atype := .int) (a0 := zI 40) 0 rfl k_681 rfl (fun _ => rfl) (by decide) (by decide) (by decide) (Nat.le_of_ble_eq_true rfl) (Nat.le_of_ble_eq_true rfl) d_Mo_init_15 (fun q3 H f_q3 hI => ?_)
  replace hf := hf q3 f_q3
  obtain ⟨h4, e_h4, hf⟩ := hf
  refine fh_putf S hE.1 hI e_h4 (hc := rfl) (hin := in_6) tok_6 nok_6 (by decide) (hts _ k_165) rfl hnm rfl rfl rfl d_Mo_init_17 (fun H locs hI => ?_)
  refine fh_aload_n S d_Mo_init_20 rfl (lv_at hl 0 rfl) ?_
  refine lv_iconst (v := 1) hx hb d_Mo_init_21 (by decide) ?_
  obtain ⟨h5, e_h5, hf⟩ := hf
  refine fh_putv S hE.1 hI e_h5 (hc := rfl) (hin := in_6) tok_6 nok_6 (by decide) (hts _ k_161) rfl rfl rfl d_Mo_init_22 (fun H locs hI => ?_)
  refine fh_aload_n S d_Mo_init_25 rfl (lv_at hl 0 rfl) ?_
  refine lv_iconst (v := 1) hx hb d_Mo_init_26 (by decide) ?_
  obtain ⟨h6, e_h6, hf⟩ := hf
  refine fh_putv S hE.1 hI e_h6 (hc := rfl) (hin := in_6) tok_6 nok_6 (by decide) (hts _ k_168) rfl rfl rfl d_Mo_init_27 (fun H locs hI => ?_)
  refine fh_aload_n S d_Mo_init_30 rfl (lv_at hl 0 rfl) ?_
  refine lv_bipush (v := 50) hx hb d_Mo_init_31 (by decide) ?_
  refine fh_newa S hE hI (atype := .long) (a0 := zL 50) 1 rfl k_682 rfl (fun _ => rfl) (by decide) (by decide) (by decide) (Nat.le_of_ble_eq_true rfl) (Nat.le_of_ble_eq_true rfl) d_Mo_init_33 (fun q7 H f_q7 hI => ?_)
  replace hf := hf q7 f_q7
  obtain ⟨h8, e_h8, hf⟩ := hf
  refine fh_putf S hE.1 hI e_h8 (hc := rfl) (hin := in_6) tok_6 nok_6 (by decide) (hts _ k_140) rfl hnm rfl rfl rfl d_Mo_init_35 (fun H locs hI => ?_)
  refine fh_aload_n S d_Mo_init_38 rfl (lv_at hl 0 rfl) ?_
  refine lv_bipush (v := 50) hx hb d_Mo_init_39 (by decide) ?_
  refine fh_newa S hE hI (atype := .long) (a0 := zL 50) 1 rfl k_682 rfl (fun _ => rfl) (by decide) (by decide) (by decide) (Nat.le_of_ble_eq_true rfl) (Nat.le_of_ble_eq_true rfl) d_Mo_init_41 (fun q9 H f_q9 hI => ?_)
  replace hf := hf q9 f_q9
  obtain ⟨h10, e_h10, hf⟩ := hf
  refine fh_putf S hE.1 hI e_h10 (hc := rfl) (hin := in_6) tok_6 nok_6 (by decide) (hts _ k_142) rfl hnm rfl rfl rfl d_Mo_init_43 (fun H locs hI => ?_)
  refine fh_aload_n S d_Mo_init_46 rfl (lv_at hl 0 rfl) ?_
  refine lv_iconst (v := 5) hx hb d_Mo_init_47 (by decide) ?_
  refine fh_newa S hE hI (atype := .int) (a0 := zI 5) 0 rfl k_681 rfl (fun _ => rfl) (by decide) (by decide) (by decide) (Nat.le_of_ble_eq_true rfl) (Nat.le_of_ble_eq_true rfl) d_Mo_init_48 (fun q11 H f_q11 hI => ?_)
  replace hf := hf q11 f_q11
  obtain ⟨h12, e_h12, hf⟩ := hf
  refine fh_putf S hE.1 hI e_h12 (hc := rfl) (hin := in_6) tok_6 nok_6 (by decide) (hts _ k_162) rfl hnm rfl rfl rfl d_Mo_init_50 (fun H locs hI => ?_)
  refine fh_aload_n S d_Mo_init_53 rfl (lv_at hl 0 rfl) ?_
  refine lv_bipush (v := 6) hx hb d_Mo_init_54 (by decide) ?_
  refine fh_newa S hE hI (atype := .int) (a0 := zI 6) 0 rfl k_681 rfl (fun _ => rfl) (by decide) (by decide) (by decide) (Nat.le_of_ble_eq_true rfl) (Nat.le_of_ble_eq_true rfl) d_Mo_init_56 (fun q13 H f_q13 hI => ?_)
  replace hf := hf q13 f_q13
  obtain ⟨h14, e_h14, hf⟩ := hf
  refine fh_putf S hE.1 hI e_h14 (hc := rfl) (hin := in_6) tok_6 nok_6 (by decide) (hts _ k_178) rfl hnm rfl rfl rfl d_Mo_init_58 (fun H locs hI => ?_)
  refine fh_aload_n S d_Mo_init_61 rfl (lv_at hl 0 rfl) ?_
  refine lv_bipush (v := 100) hx hb d_Mo_init_62 (by decide) ?_
  refine fh_newa S hE hI (atype := .boolean) (a0 := zI 100) 2 rfl k_683 rfl (fun _ => rfl) (by decide) (by decide) (by decide) (Nat.le_of_ble_eq_true rfl) (Nat.le_of_ble_eq_true rfl) d_Mo_init_64 (fun q15 H f_q15 hI => ?_)
  replace hf := hf q15 f_q15
  obtain ⟨h16, e_h16, hf⟩ := hf
  refine fh_putf S hE.1 hI e_h16 (hc := rfl) (hin := in_6) tok_6 nok_6 (by decide) (hts _ k_185) rfl hnm rfl rfl rfl d_Mo_init_66 (fun H locs hI => ?_)
  refine fh_aload_n S d_Mo_init_69 rfl (lv_at hl 0 rfl) ?_
  refine lv_bipush (v := 6) hx hb d_Mo_init_70 (by decide) ?_
  refine fh_newa S hE hI (atype := .int) (a0 := zI 6) 0 rfl k_681 rfl (fun _ => rfl) (by decide) (by decide) (by decide) (Nat.le_of_ble_eq_true rfl) (Nat.le_of_ble_eq_true rfl) d_Mo_init_72 (fun q17 H f_q17 hI => ?_)
  replace hf := hf q17 f_q17
  obtain ⟨h18, e_h18, hf⟩ := hf
  refine fh_putf S hE.1 hI e_h18 (hc := rfl) (hin := in_6) tok_6 nok_6 (by decide) (hts _ k_199) rfl hnm rfl rfl rfl d_Mo_init_74 (fun H locs hI => ?_)
  refine fh_aload_n S d_Mo_init_77 rfl (lv_at hl 0 rfl) ?_
  refine lv_sipush (v := 1024) hx hb d_Mo_init_78 (by decide) ?_
  refine fh_newa S hE hI (atype := .boolean) (a0 := zI 1024) 2 rfl k_683 rfl (fun _ => rfl) (by decide) (by decide) (by decide) (Nat.le_of_ble_eq_true rfl) (Nat.le_of_ble_eq_true rfl) d_Mo_init_81 (fun q19 H f_q19 hI => ?_)
  replace hf := hf q19 f_q19
  obtain ⟨h20, e_h20, hf⟩ := hf
  refine fh_putf S hE.1 hI e_h20 (hc := rfl) (hin := in_6) tok_6 nok_6 (by decide) (hts _ k_206) rfl hnm rfl rfl rfl d_Mo_init_83 (fun H locs hI => ?_)
  refine fh_aload_n S d_Mo_init_86 rfl (lv_at hl 0 rfl) ?_
  obtain ⟨b, e_b, h9, e_9, hf⟩ := hf
  refine fh_callV (As := []) (rest := []) S fT_good (hE.nw nw_sub) hI e_b rfl (c_Mo_drawAll e_9) fy_Mo_drawAll fst_Mo_drawAll k_170 ⟨rfl, rfl⟩ ⟨Nat.le_of_ble_eq_true rfl, Nat.le_of_ble_eq_true rfl⟩ ⟨Nat.le_of_ble_eq_true rfl, Nat.le_of_ble_eq_true rfl⟩ rfl hl.1 rfl (Nat.le_of_ble_eq_true rfl) d_Mo_init_87 (fun H locs hI => ?_)
  exact fh_vretW S hr hk hAe hI hf d_Mo_init_90
