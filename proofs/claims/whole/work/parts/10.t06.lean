theorem d_Mo_centre_0 : decode c0_Mo_centre 0 = .ok (.ldc2_w 96, 3) := by decide +kernel
theorem d_Mo_centre_3 : decode c0_Mo_centre 3 = .ok (.aload_n 0, 1) := by decide +kernel
theorem d_Mo_centre_4 : decode c0_Mo_centre 4 = .ok (.iload_n 1, 1) := by decide +kernel
theorem d_Mo_centre_5 : decode c0_Mo_centre 5 = .ok (.iload_n 2, 1) := by decide +kernel
theorem d_Mo_centre_6 : decode c0_Mo_centre 6 = .ok (.iload_n 1, 1) := by decide +kernel
theorem d_Mo_centre_7 : decode c0_Mo_centre 7 = .ok (.iload_n 3, 1) := by decide +kernel
theorem d_Mo_centre_8 : decode c0_Mo_centre 8 = .ok (.invokevirtual 98, 3) := by decide +kernel
theorem d_Mo_centre_11 : decode c0_Mo_centre 11 = .ok (.lmul, 1) := by decide +kernel
theorem d_Mo_centre_12 : decode c0_Mo_centre 12 = .ok (.invokestatic 51, 3) := by decide +kernel
theorem d_Mo_centre_15 : decode c0_Mo_centre 15 = .ok (.lstore 4, 2) := by decide +kernel
theorem d_Mo_centre_17 : decode c0_Mo_centre 17 = .ok (.lload 4, 2) := by decide +kernel
theorem d_Mo_centre_19 : decode c0_Mo_centre 19 = .ok (.lconst 0, 1) := by decide +kernel
theorem d_Mo_centre_20 : decode c0_Mo_centre 20 = .ok (.lcmp, 1) := by decide +kernel
theorem d_Mo_centre_21 : decode c0_Mo_centre 21 = .ok (.ifCond .ne 9, 3) := by decide +kernel
theorem d_Mo_centre_24 : decode c0_Mo_centre 24 = .ok (.aload_n 0, 1) := by decide +kernel
theorem d_Mo_centre_25 : decode c0_Mo_centre 25 = .ok (.iconst 1, 1) := by decide +kernel
theorem d_Mo_centre_26 : decode c0_Mo_centre 26 = .ok (.putfield 85, 3) := by decide +kernel
theorem d_Mo_centre_29 : decode c0_Mo_centre 29 = .ok (.return_, 1) := by decide +kernel
theorem d_Mo_centre_30 : decode c0_Mo_centre 30 = .ok (.lload 4, 2) := by decide +kernel
theorem d_Mo_centre_32 : decode c0_Mo_centre 32 = .ok (.invokestatic 89, 3) := by decide +kernel
theorem d_Mo_centre_35 : decode c0_Mo_centre 35 = .ok (.lstore 6, 2) := by decide +kernel
theorem d_Mo_centre_37 : decode c0_Mo_centre 37 = .ok (.aload_n 0, 1) := by decide +kernel
theorem d_Mo_centre_38 : decode c0_Mo_centre 38 = .ok (.iload_n 1, 1) := by decide +kernel
theorem d_Mo_centre_39 : decode c0_Mo_centre 39 = .ok (.iload_n 2, 1) := by decide +kernel
theorem d_Mo_centre_40 : decode c0_Mo_centre 40 = .ok (.iload_n 1, 1) := by decide +kernel
theorem d_Mo_centre_41 : decode c0_Mo_centre 41 = .ok (.iload_n 2, 1) := by decide +kernel
theorem d_Mo_centre_42 : decode c0_Mo_centre 42 = .ok (.invokevirtual 81, 3) := by decide +kernel
theorem d_Mo_centre_45 : decode c0_Mo_centre 45 = .ok (.lstore 8, 2) := by decide +kernel
theorem d_Mo_centre_47 : decode c0_Mo_centre 47 = .ok (.aload_n 0, 1) := by decide +kernel
theorem d_Mo_centre_48 : decode c0_Mo_centre 48 = .ok (.iload_n 1, 1) := by decide +kernel
theorem d_Mo_centre_49 : decode c0_Mo_centre 49 = .ok (.iload_n 3, 1) := by decide +kernel
theorem d_Mo_centre_50 : decode c0_Mo_centre 50 = .ok (.iload_n 1, 1) := by decide +kernel
theorem d_Mo_centre_51 : decode c0_Mo_centre 51 = .ok (.iload_n 3, 1) := by decide +kernel
theorem d_Mo_centre_52 : decode c0_Mo_centre 52 = .ok (.invokevirtual 81, 3) := by decide +kernel
theorem d_Mo_centre_55 : decode c0_Mo_centre 55 = .ok (.lstore 10, 2) := by decide +kernel
theorem d_Mo_centre_57 : decode c0_Mo_centre 57 = .ok (.aload_n 0, 1) := by decide +kernel
theorem d_Mo_centre_58 : decode c0_Mo_centre 58 = .ok (.aload_n 0, 1) := by decide +kernel
theorem d_Mo_centre_59 : decode c0_Mo_centre 59 = .ok (.iload_n 1, 1) := by decide +kernel
theorem d_Mo_centre_60 : decode c0_Mo_centre 60 = .ok (.invokevirtual 68, 3) := by decide +kernel
theorem d_Mo_centre_63 : decode c0_Mo_centre 63 = .ok (.aload_n 0, 1) := by decide +kernel
theorem d_Mo_centre_64 : decode c0_Mo_centre 64 = .ok (.iload_n 3, 1) := by decide +kernel
theorem d_Mo_centre_65 : decode c0_Mo_centre 65 = .ok (.invokevirtual 72, 3) := by decide +kernel
theorem d_Mo_centre_68 : decode c0_Mo_centre 68 = .ok (.aload_n 0, 1) := by decide +kernel
theorem d_Mo_centre_69 : decode c0_Mo_centre 69 = .ok (.iload_n 1, 1) := by decide +kernel
theorem d_Mo_centre_70 : decode c0_Mo_centre 70 = .ok (.invokevirtual 72, 3) := by decide +kernel
theorem d_Mo_centre_73 : decode c0_Mo_centre 73 = .ok (.lsub, 1) := by decide +kernel
theorem d_Mo_centre_74 : decode c0_Mo_centre 74 = .ok (.invokestatic 51, 3) := by decide +kernel
theorem d_Mo_centre_77 : decode c0_Mo_centre 77 = .ok (.lload 8, 2) := by decide +kernel
theorem d_Mo_centre_79 : decode c0_Mo_centre 79 = .ok (.lmul, 1) := by decide +kernel
theorem d_Mo_centre_80 : decode c0_Mo_centre 80 = .ok (.aload_n 0, 1) := by decide +kernel
theorem d_Mo_centre_81 : decode c0_Mo_centre 81 = .ok (.iload_n 2, 1) := by decide +kernel
theorem d_Mo_centre_82 : decode c0_Mo_centre 82 = .ok (.invokevirtual 72, 3) := by decide +kernel
theorem d_Mo_centre_85 : decode c0_Mo_centre 85 = .ok (.aload_n 0, 1) := by decide +kernel
theorem d_Mo_centre_86 : decode c0_Mo_centre 86 = .ok (.iload_n 1, 1) := by decide +kernel
theorem d_Mo_centre_87 : decode c0_Mo_centre 87 = .ok (.invokevirtual 72, 3) := by decide +kernel
theorem d_Mo_centre_90 : decode c0_Mo_centre 90 = .ok (.lsub, 1) := by decide +kernel
theorem d_Mo_centre_91 : decode c0_Mo_centre 91 = .ok (.invokestatic 51, 3) := by decide +kernel
theorem d_Mo_centre_94 : decode c0_Mo_centre 94 = .ok (.lload 10, 2) := by decide +kernel
theorem d_Mo_centre_96 : decode c0_Mo_centre 96 = .ok (.lmul, 1) := by decide +kernel
theorem d_Mo_centre_97 : decode c0_Mo_centre 97 = .ok (.lsub, 1) := by decide +kernel
theorem d_Mo_centre_98 : decode c0_Mo_centre 98 = .ok (.invokestatic 51, 3) := by decide +kernel
theorem d_Mo_centre_101 : decode c0_Mo_centre 101 = .ok (.lload 6, 2) := by decide +kernel
theorem d_Mo_centre_103 : decode c0_Mo_centre 103 = .ok (.lmul, 1) := by decide +kernel
theorem d_Mo_centre_104 : decode c0_Mo_centre 104 = .ok (.ladd, 1) := by decide +kernel
theorem d_Mo_centre_105 : decode c0_Mo_centre 105 = .ok (.invokestatic 51, 3) := by decide +kernel
theorem d_Mo_centre_108 : decode c0_Mo_centre 108 = .ok (.putfield 75, 3) := by decide +kernel
theorem d_Mo_centre_111 : decode c0_Mo_centre 111 = .ok (.aload_n 0, 1) := by decide +kernel
theorem d_Mo_centre_112 : decode c0_Mo_centre 112 = .ok (.aload_n 0, 1) := by decide +kernel
theorem d_Mo_centre_113 : decode c0_Mo_centre 113 = .ok (.iload_n 1, 1) := by decide +kernel
theorem d_Mo_centre_114 : decode c0_Mo_centre 114 = .ok (.invokevirtual 72, 3) := by decide +kernel
theorem d_Mo_centre_117 : decode c0_Mo_centre 117 = .ok (.aload_n 0, 1) := by decide +kernel
theorem d_Mo_centre_118 : decode c0_Mo_centre 118 = .ok (.iload_n 2, 1) := by decide +kernel
theorem d_Mo_centre_119 : decode c0_Mo_centre 119 = .ok (.invokevirtual 68, 3) := by decide +kernel
theorem d_Mo_centre_122 : decode c0_Mo_centre 122 = .ok (.aload_n 0, 1) := by decide +kernel
theorem d_Mo_centre_123 : decode c0_Mo_centre 123 = .ok (.iload_n 1, 1) := by decide +kernel
theorem d_Mo_centre_124 : decode c0_Mo_centre 124 = .ok (.invokevirtual 68, 3) := by decide +kernel
theorem d_Mo_centre_127 : decode c0_Mo_centre 127 = .ok (.lsub, 1) := by decide +kernel
theorem d_Mo_centre_128 : decode c0_Mo_centre 128 = .ok (.invokestatic 51, 3) := by decide +kernel
theorem d_Mo_centre_131 : decode c0_Mo_centre 131 = .ok (.lload 10, 2) := by decide +kernel
theorem d_Mo_centre_133 : decode c0_Mo_centre 133 = .ok (.lmul, 1) := by decide +kernel
theorem d_Mo_centre_134 : decode c0_Mo_centre 134 = .ok (.aload_n 0, 1) := by decide +kernel
theorem d_Mo_centre_135 : decode c0_Mo_centre 135 = .ok (.iload_n 3, 1) := by decide +kernel
theorem d_Mo_centre_136 : decode c0_Mo_centre 136 = .ok (.invokevirtual 68, 3) := by decide +kernel
theorem d_Mo_centre_139 : decode c0_Mo_centre 139 = .ok (.aload_n 0, 1) := by decide +kernel
theorem d_Mo_centre_140 : decode c0_Mo_centre 140 = .ok (.iload_n 1, 1) := by decide +kernel
theorem d_Mo_centre_141 : decode c0_Mo_centre 141 = .ok (.invokevirtual 68, 3) := by decide +kernel
theorem d_Mo_centre_144 : decode c0_Mo_centre 144 = .ok (.lsub, 1) := by decide +kernel
theorem d_Mo_centre_145 : decode c0_Mo_centre 145 = .ok (.invokestatic 51, 3) := by decide +kernel
theorem d_Mo_centre_148 : decode c0_Mo_centre 148 = .ok (.lload 8, 2) := by decide +kernel
theorem d_Mo_centre_150 : decode c0_Mo_centre 150 = .ok (.lmul, 1) := by decide +kernel
theorem d_Mo_centre_151 : decode c0_Mo_centre 151 = .ok (.lsub, 1) := by decide +kernel
theorem d_Mo_centre_152 : decode c0_Mo_centre 152 = .ok (.invokestatic 51, 3) := by decide +kernel
theorem d_Mo_centre_155 : decode c0_Mo_centre 155 = .ok (.lload 6, 2) := by decide +kernel
theorem d_Mo_centre_157 : decode c0_Mo_centre 157 = .ok (.lmul, 1) := by decide +kernel
theorem d_Mo_centre_158 : decode c0_Mo_centre 158 = .ok (.ladd, 1) := by decide +kernel
theorem d_Mo_centre_159 : decode c0_Mo_centre 159 = .ok (.invokestatic 51, 3) := by decide +kernel
theorem d_Mo_centre_162 : decode c0_Mo_centre 162 = .ok (.putfield 78, 3) := by decide +kernel
theorem d_Mo_centre_165 : decode c0_Mo_centre 165 = .ok (.return_, 1) := by decide +kernel
def f_Mo_centre (K : Nat → ClassId) (N : Nat) (o : Nat) (a1 : Int32) (a2 : Int32) (a3 : Int32) (h0 : fh_H) : Option (fh_H) :=
  (fg_o h0 (some o) 6).bind fun o1 => (f_Mo_cross K N o1 a1 a2 a1 a3 h0).bind fun r2 => (f_Mo_mod K N (2 * r2.1) r2.2).bind fun r3 => if (lg_cmp r3.1 0) = 0 then ((fp_z r3.2 (some o) 6 12 1).bind fun h39 => some h39) else ((f_Mo_inverse K N r3.1 r3.2).bind fun r4 => (fg_o r4.2 (some o) 6).bind fun o5 => (f_Mo_dot K N o5 a1 a2 a1 a2 r4.2).bind fun r6 => (fg_o r6.2 (some o) 6).bind fun o7 => (f_Mo_dot K N o7 a1 a3 a1 a3 r6.2).bind fun r8 => (fg_o r8.2 (some o) 6).bind fun o9 => (f_Mo_px K N o9 a1 r8.2).bind fun r10 => (fg_o r10.2 (some o) 6).bind fun o11 => (f_Mo_py K N o11 a3 r10.2).bind fun r12 => (fg_o r12.2 (some o) 6).bind fun o13 => (f_Mo_py K N o13 a1 r12.2).bind fun r14 => (f_Mo_mod K N (r12.1 - r14.1) r14.2).bind fun r15 => (fg_o r15.2 (some o) 6).bind fun o16 => (f_Mo_py K N o16 a2 r15.2).bind fun r17 => (fg_o r17.2 (some o) 6).bind fun o18 => (f_Mo_py K N o18 a1 r17.2).bind fun r19 => (f_Mo_mod K N (r17.1 - r19.1) r19.2).bind fun r20 => (f_Mo_mod K N ((r15.1 * r6.1) - (r20.1 * r8.1)) r20.2).bind fun r21 => (f_Mo_mod K N (r10.1 + (r21.1 * r4.1)) r21.2).bind fun r22 => (fp_v r22.2 (some o) 6 10 (.long r22.1)).bind fun h23 => (fg_o h23 (some o) 6).bind fun o24 => (f_Mo_py K N o24 a1 h23).bind fun r25 => (fg_o r25.2 (some o) 6).bind fun o26 => (f_Mo_px K N o26 a2 r25.2).bind fun r27 => (fg_o r27.2 (some o) 6).bind fun o28 => (f_Mo_px K N o28 a1 r27.2).bind fun r29 => (f_Mo_mod K N (r27.1 - r29.1) r29.2).bind fun r30 => (fg_o r30.2 (some o) 6).bind fun o31 => (f_Mo_px K N o31 a3 r30.2).bind fun r32 => (fg_o r32.2 (some o) 6).bind fun o33 => (f_Mo_px K N o33 a1 r32.2).bind fun r34 => (f_Mo_mod K N (r32.1 - r34.1) r34.2).bind fun r35 => (f_Mo_mod K N ((r30.1 * r8.1) - (r35.1 * r6.1)) r35.2).bind fun r36 => (f_Mo_mod K N (r25.1 + (r36.1 * r4.1)) r36.2).bind fun r37 => (fp_v r37.2 (some o) 6 11 (.long r37.1)).bind fun h38 => some h38)
set_option maxHeartbeats 4000000 in
set_option maxRecDepth 100000 in
theorem c_Mo_centre {l : Launch} {D : va_G} {K : Nat → ClassId} {t : Nat → Nat} {N : Nat} {o : Nat} {a1 : Int32} {a2 : Int32} {a3 : Int32} {h0 : fh_H} {res : fh_H} (hf : f_Mo_centre K N o a1 a2 a3 h0 = some res) : fC l D K t y_Mo_centre c0_Mo_centre 12 none rm_Mo_centre [.ref o, .int a1, .int a2, .int a3] h0 (none) res := by
  refine fh_body (by decide) (Nat.le_of_ble_eq_true rfl) ?_
  intro p e s m below meth c A ls S hr hk hnm hE hAe hI hl
  obtain ⟨hx, hb, hml, hown, hts⟩ := id S
  have hl : lv_has ls 12 [(0, va_rf (some o)), (1, .int a1), (2, .int a2), (3, .int a3)] := hl
  unfold f_Mo_centre at hf
  refine lv_ldc2 hx hb hown (hts _ k_152) d_Mo_centre_0 ?_
  refine fh_aload_n S d_Mo_centre_3 rfl (lv_at hl 0 rfl) ?_
  refine lv_iload_n hx hb d_Mo_centre_4 rfl (lv_at hl 1 rfl) ?_
  refine lv_iload_n hx hb d_Mo_centre_5 rfl (lv_at hl 2 rfl) ?_
  refine lv_iload_n hx hb d_Mo_centre_6 rfl (lv_at hl 1 rfl) ?_
  refine lv_iload_n hx hb d_Mo_centre_7 rfl (lv_at hl 3 rfl) ?_
  obtain ⟨o1, e_o1, hf⟩ := fh_b hf
  obtain ⟨r2, e_r2, hf⟩ := fh_b hf
  refine fh_callV (As := [.int a1, .int a2, .int a1, .int a3]) (rest := [.long 2]) S fT_good hE hI e_o1 rfl (c_Mo_cross e_r2) fy_Mo_cross fst_Mo_cross k_151 ⟨rfl, rfl⟩ ⟨Nat.le_of_ble_eq_true rfl, Nat.le_of_ble_eq_true rfl⟩ ⟨Nat.zero_le _, Nat.zero_le _⟩ rfl hl.1 rfl (Nat.le_of_ble_eq_true rfl) d_Mo_centre_8 (fun H locs hI => ?_)
  refine lv_lmul hx hb d_Mo_centre_11 ?_
  obtain ⟨r3, e_r3, hf⟩ := fh_b hf
  refine fh_callS (As := [.long (2 * r2.1)]) (rest := []) S fT_good hE hI (c_Mo_mod e_r3) fy_Mo_mod fst_Mo_mod k_135 ⟨rfl, rfl⟩ ⟨Nat.le_of_ble_eq_true rfl, Nat.le_of_ble_eq_true rfl⟩ ⟨Nat.zero_le _, Nat.zero_le _⟩ rfl hl.1 rfl (Nat.le_of_ble_eq_true rfl) d_Mo_centre_12 (fun H locs hI => ?_)
  refine lv_lstore (lv' := [(4, .long r3.1), (0, va_rf (some o)), (1, .int a1), (2, .int a2), (3, .int a3)]) hx hb d_Mo_centre_15 hl (by decide) rfl (fun ls hl => ?_)
  refine lv_lload hx hb d_Mo_centre_17 (lv_at hl 0 rfl) ?_
  refine lv_lconst (v := 0) hx hb d_Mo_centre_19 (by decide) ?_
  refine W.lcmp hx hb d_Mo_centre_20 ?_
  refine lv_if_ne (tgt := 30) hx hb d_Mo_centre_21 (by decide) (fun c_21 => ?_) (fun c_21 => ?_)
  · replace hf := fh_f c_21 hf
    refine lv_lload hx hb d_Mo_centre_30 (lv_at hl 0 rfl) ?_
    obtain ⟨r4, e_r4, hf⟩ := fh_b hf
    refine fh_callS (As := [.long r3.1]) (rest := []) S fT_good hE hI (c_Mo_inverse e_r4) fy_Mo_inverse fst_Mo_inverse k_148 ⟨rfl, rfl⟩ ⟨Nat.le_of_ble_eq_true rfl, Nat.le_of_ble_eq_true rfl⟩ ⟨Nat.zero_le _, Nat.zero_le _⟩ rfl hl.1 rfl (Nat.le_of_ble_eq_true rfl) d_Mo_centre_32 (fun H locs hI => ?_)
    refine lv_lstore (lv' := [(6, .long r4.1), (4, .long r3.1), (0, va_rf (some o)), (1, .int a1), (2, .int a2), (3, .int a3)]) hx hb d_Mo_centre_35 hl (by decide) rfl (fun ls hl => ?_)
    refine fh_aload_n S d_Mo_centre_37 rfl (lv_at hl 2 rfl) ?_
    refine lv_iload_n hx hb d_Mo_centre_38 rfl (lv_at hl 3 rfl) ?_
    refine lv_iload_n hx hb d_Mo_centre_39 rfl (lv_at hl 4 rfl) ?_
    refine lv_iload_n hx hb d_Mo_centre_40 rfl (lv_at hl 3 rfl) ?_
    refine lv_iload_n hx hb d_Mo_centre_41 rfl (lv_at hl 4 rfl) ?_
    obtain ⟨o5, e_o5, hf⟩ := fh_b hf
    obtain ⟨r6, e_r6, hf⟩ := fh_b hf
    refine fh_callV (As := [.int a1, .int a2, .int a1, .int a2]) (rest := []) S fT_good hE hI e_o5 rfl (c_Mo_dot e_r6) fy_Mo_dot fst_Mo_dot k_147 ⟨rfl, rfl⟩ ⟨Nat.le_of_ble_eq_true rfl, Nat.le_of_ble_eq_true rfl⟩ ⟨Nat.zero_le _, Nat.zero_le _⟩ rfl hl.1 rfl (Nat.le_of_ble_eq_true rfl) d_Mo_centre_42 (fun H locs hI => ?_)
    refine lv_lstore (lv' := [(8, .long r6.1), (6, .long r4.1), (4, .long r3.1), (0, va_rf (some o)), (1, .int a1), (2, .int a2), (3, .int a3)]) hx hb d_Mo_centre_45 hl (by decide) rfl (fun ls hl => ?_)
    refine fh_aload_n S d_Mo_centre_47 rfl (lv_at hl 3 rfl) ?_
    refine lv_iload_n hx hb d_Mo_centre_48 rfl (lv_at hl 4 rfl) ?_
    refine lv_iload_n hx hb d_Mo_centre_49 rfl (lv_at hl 6 rfl) ?_
    refine lv_iload_n hx hb d_Mo_centre_50 rfl (lv_at hl 4 rfl) ?_
    refine lv_iload_n hx hb d_Mo_centre_51 rfl (lv_at hl 6 rfl) ?_
    obtain ⟨o7, e_o7, hf⟩ := fh_b hf
    obtain ⟨r8, e_r8, hf⟩ := fh_b hf
    refine fh_callV (As := [.int a1, .int a3, .int a1, .int a3]) (rest := []) S fT_good hE hI e_o7 rfl (c_Mo_dot e_r8) fy_Mo_dot fst_Mo_dot k_147 ⟨rfl, rfl⟩ ⟨Nat.le_of_ble_eq_true rfl, Nat.le_of_ble_eq_true rfl⟩ ⟨Nat.zero_le _, Nat.zero_le _⟩ rfl hl.1 rfl (Nat.le_of_ble_eq_true rfl) d_Mo_centre_52 (fun H locs hI => ?_)
    refine lv_lstore (lv' := [(10, .long r8.1), (8, .long r6.1), (6, .long r4.1), (4, .long r3.1), (0, va_rf (some o)), (1, .int a1), (2, .int a2), (3, .int a3)]) hx hb d_Mo_centre_55 hl (by decide) rfl (fun ls hl => ?_)
    refine fh_aload_n S d_Mo_centre_57 rfl (lv_at hl 4 rfl) ?_
    refine fh_aload_n S d_Mo_centre_58 rfl (lv_at hl 4 rfl) ?_
    refine lv_iload_n hx hb d_Mo_centre_59 rfl (lv_at hl 5 rfl) ?_
    obtain ⟨o9, e_o9, hf⟩ := fh_b hf
    obtain ⟨r10, e_r10, hf⟩ := fh_b hf
    refine fh_callV (As := [.int a1]) (rest := [va_rf (some o)]) S fT_good hE hI e_o9 rfl (c_Mo_px e_r10) fy_Mo_px fst_Mo_px k_143 ⟨rfl, rfl⟩ ⟨Nat.le_of_ble_eq_true rfl, Nat.le_of_ble_eq_true rfl⟩ ⟨Nat.zero_le _, Nat.zero_le _⟩ rfl hl.1 rfl (Nat.le_of_ble_eq_true rfl) d_Mo_centre_60 (fun H locs hI => ?_)
    refine fh_aload_n S d_Mo_centre_63 rfl (lv_at hl 4 rfl) ?_
    refine lv_iload_n hx hb d_Mo_centre_64 rfl (lv_at hl 7 rfl) ?_
    obtain ⟨o11, e_o11, hf⟩ := fh_b hf
    obtain ⟨r12, e_r12, hf⟩ := fh_b hf
    refine fh_callV (As := [.int a3]) (rest := [.long r10.1, va_rf (some o)]) S fT_good hE hI e_o11 rfl (c_Mo_py e_r12) fy_Mo_py fst_Mo_py k_144 ⟨rfl, rfl⟩ ⟨Nat.le_of_ble_eq_true rfl, Nat.le_of_ble_eq_true rfl⟩ ⟨Nat.zero_le _, Nat.zero_le _⟩ rfl hl.1 rfl (Nat.le_of_ble_eq_true rfl) d_Mo_centre_65 (fun H locs hI => ?_)
    refine fh_aload_n S d_Mo_centre_68 rfl (lv_at hl 4 rfl) ?_
    refine lv_iload_n hx hb d_Mo_centre_69 rfl (lv_at hl 5 rfl) ?_
    obtain ⟨o13, e_o13, hf⟩ := fh_b hf
    obtain ⟨r14, e_r14, hf⟩ := fh_b hf
    refine fh_callV (As := [.int a1]) (rest := [.long r12.1, .long r10.1, va_rf (some o)]) S fT_good hE hI e_o13 rfl (c_Mo_py e_r14) fy_Mo_py fst_Mo_py k_144 ⟨rfl, rfl⟩ ⟨Nat.le_of_ble_eq_true rfl, Nat.le_of_ble_eq_true rfl⟩ ⟨Nat.zero_le _, Nat.zero_le _⟩ rfl hl.1 rfl (Nat.le_of_ble_eq_true rfl) d_Mo_centre_70 (fun H locs hI => ?_)
    refine lv_lsub hx hb d_Mo_centre_73 ?_
    obtain ⟨r15, e_r15, hf⟩ := fh_b hf
    refine fh_callS (As := [.long (r12.1 - r14.1)]) (rest := [.long r10.1, va_rf (some o)]) S fT_good hE hI (c_Mo_mod e_r15) fy_Mo_mod fst_Mo_mod k_135 ⟨rfl, rfl⟩ ⟨Nat.le_of_ble_eq_true rfl, Nat.le_of_ble_eq_true rfl⟩ ⟨Nat.zero_le _, Nat.zero_le _⟩ rfl hl.1 rfl (Nat.le_of_ble_eq_true rfl) d_Mo_centre_74 (fun H locs hI => ?_)
    refine lv_lload hx hb d_Mo_centre_77 (lv_at hl 1 rfl) ?_
    refine lv_lmul hx hb d_Mo_centre_79 ?_
    refine fh_aload_n S d_Mo_centre_80 rfl (lv_at hl 4 rfl) ?_
    refine lv_iload_n hx hb d_Mo_centre_81 rfl (lv_at hl 6 rfl) ?_
    obtain ⟨o16, e_o16, hf⟩ := fh_b hf
    obtain ⟨r17, e_r17, hf⟩ := fh_b hf
    refine fh_callV (As := [.int a2]) (rest := [.long (r15.1 * r6.1), .long r10.1, va_rf (some o)]) S fT_good hE hI e_o16 rfl (c_Mo_py e_r17) fy_Mo_py fst_Mo_py k_144 ⟨rfl, rfl⟩ ⟨Nat.le_of_ble_eq_true rfl, Nat.le_of_ble_eq_true rfl⟩ ⟨Nat.zero_le _, Nat.zero_le _⟩ rfl hl.1 rfl (Nat.le_of_ble_eq_true rfl) d_Mo_centre_82 (fun H locs hI => ?_)
    refine fh_aload_n S d_Mo_centre_85 rfl (lv_at hl 4 rfl) ?_
    refine lv_iload_n hx hb d_Mo_centre_86 rfl (lv_at hl 5 rfl) ?_
    obtain ⟨o18, e_o18, hf⟩ := fh_b hf
    obtain ⟨r19, e_r19, hf⟩ := fh_b hf
    refine fh_callV (As := [.int a1]) (rest := [.long r17.1, .long (r15.1 * r6.1), .long r10.1, va_rf (some o)]) S fT_good hE hI e_o18 rfl (c_Mo_py e_r19) fy_Mo_py fst_Mo_py k_144 ⟨rfl, rfl⟩ ⟨Nat.le_of_ble_eq_true rfl, Nat.le_of_ble_eq_true rfl⟩ ⟨Nat.zero_le _, Nat.zero_le _⟩ rfl hl.1 rfl (Nat.le_of_ble_eq_true rfl) d_Mo_centre_87 (fun H locs hI => ?_)
    refine lv_lsub hx hb d_Mo_centre_90 ?_
    obtain ⟨r20, e_r20, hf⟩ := fh_b hf
    refine fh_callS (As := [.long (r17.1 - r19.1)]) (rest := [.long (r15.1 * r6.1), .long r10.1, va_rf (some o)]) S fT_good hE hI (c_Mo_mod e_r20) fy_Mo_mod fst_Mo_mod k_135 ⟨rfl, rfl⟩ ⟨Nat.le_of_ble_eq_true rfl, Nat.le_of_ble_eq_true rfl⟩ ⟨Nat.zero_le _, Nat.zero_le _⟩ rfl hl.1 rfl (Nat.le_of_ble_eq_true rfl) d_Mo_centre_91 (fun H locs hI => ?_)
    refine lv_lload hx hb d_Mo_centre_94 (lv_at hl 0 rfl) ?_
    refine lv_lmul hx hb d_Mo_centre_96 ?_
    refine lv_lsub hx hb d_Mo_centre_97 ?_
    obtain ⟨r21, e_r21, hf⟩ := fh_b hf
    refine fh_callS (As := [.long ((r15.1 * r6.1) - (r20.1 * r8.1))]) (rest := [.long r10.1, va_rf (some o)]) S fT_good hE hI (c_Mo_mod e_r21) fy_Mo_mod fst_Mo_mod k_135 ⟨rfl, rfl⟩ ⟨Nat.le_of_ble_eq_true rfl, Nat.le_of_ble_eq_true rfl⟩ ⟨Nat.zero_le _, Nat.zero_le _⟩ rfl hl.1 rfl (Nat.le_of_ble_eq_true rfl) d_Mo_centre_98 (fun H locs hI => ?_)
    refine lv_lload hx hb d_Mo_centre_101 (lv_at hl 2 rfl) ?_
    refine lv_lmul hx hb d_Mo_centre_103 ?_
    refine lv_ladd hx hb d_Mo_centre_104 ?_
    obtain ⟨r22, e_r22, hf⟩ := fh_b hf
    refine fh_callS (As := [.long (r10.1 + (r21.1 * r4.1))]) (rest := [va_rf (some o)]) S fT_good hE hI (c_Mo_mod e_r22) fy_Mo_mod fst_Mo_mod k_135 ⟨rfl, rfl⟩ ⟨Nat.le_of_ble_eq_true rfl, Nat.le_of_ble_eq_true rfl⟩ ⟨Nat.zero_le _, Nat.zero_le _⟩ rfl hl.1 rfl (Nat.le_of_ble_eq_true rfl) d_Mo_centre_105 (fun H locs hI => ?_)
    obtain ⟨h23, e_h23, hf⟩ := fh_b hf
    refine fh_putv S hE.1 hI e_h23 (hc := rfl) (hin := in_6) tok_6 nok_6 (by decide) (hts _ k_145) rfl rfl rfl d_Mo_centre_108 (fun H locs hI => ?_)
    refine fh_aload_n S d_Mo_centre_111 rfl (lv_at hl 4 rfl) ?_
    refine fh_aload_n S d_Mo_centre_112 rfl (lv_at hl 4 rfl) ?_
    refine lv_iload_n hx hb d_Mo_centre_113 rfl (lv_at hl 5 rfl) ?_
    obtain ⟨o24, e_o24, hf⟩ := fh_b hf
    obtain ⟨r25, e_r25, hf⟩ := fh_b hf
    refine fh_callV (As := [.int a1]) (rest := [va_rf (some o)]) S fT_good hE hI e_o24 rfl (c_Mo_py e_r25) fy_Mo_py fst_Mo_py k_144 ⟨rfl, rfl⟩ ⟨Nat.le_of_ble_eq_true rfl, Nat.le_of_ble_eq_true rfl⟩ ⟨Nat.zero_le _, Nat.zero_le _⟩ rfl hl.1 rfl (Nat.le_of_ble_eq_true rfl) d_Mo_centre_114 (fun H locs hI => ?_)
    refine fh_aload_n S d_Mo_centre_117 rfl (lv_at hl 4 rfl) ?_
    refine lv_iload_n hx hb d_Mo_centre_118 rfl (lv_at hl 6 rfl) ?_
    obtain ⟨o26, e_o26, hf⟩ := fh_b hf
    obtain ⟨r27, e_r27, hf⟩ := fh_b hf
    refine fh_callV (As := [.int a2]) (rest := [.long r25.1, va_rf (some o)]) S fT_good hE hI e_o26 rfl (c_Mo_px e_r27) fy_Mo_px fst_Mo_px k_143 ⟨rfl, rfl⟩ ⟨Nat.le_of_ble_eq_true rfl, Nat.le_of_ble_eq_true rfl⟩ ⟨Nat.zero_le _, Nat.zero_le _⟩ rfl hl.1 rfl (Nat.le_of_ble_eq_true rfl) d_Mo_centre_119 (fun H locs hI => ?_)
    refine fh_aload_n S d_Mo_centre_122 rfl (lv_at hl 4 rfl) ?_
    refine lv_iload_n hx hb d_Mo_centre_123 rfl (lv_at hl 5 rfl) ?_
    obtain ⟨o28, e_o28, hf⟩ := fh_b hf
    obtain ⟨r29, e_r29, hf⟩ := fh_b hf
    refine fh_callV (As := [.int a1]) (rest := [.long r27.1, .long r25.1, va_rf (some o)]) S fT_good hE hI e_o28 rfl (c_Mo_px e_r29) fy_Mo_px fst_Mo_px k_143 ⟨rfl, rfl⟩ ⟨Nat.le_of_ble_eq_true rfl, Nat.le_of_ble_eq_true rfl⟩ ⟨Nat.zero_le _, Nat.zero_le _⟩ rfl hl.1 rfl (Nat.le_of_ble_eq_true rfl) d_Mo_centre_124 (fun H locs hI => ?_)
    refine lv_lsub hx hb d_Mo_centre_127 ?_
    obtain ⟨r30, e_r30, hf⟩ := fh_b hf
    refine fh_callS (As := [.long (r27.1 - r29.1)]) (rest := [.long r25.1, va_rf (some o)]) S fT_good hE hI (c_Mo_mod e_r30) fy_Mo_mod fst_Mo_mod k_135 ⟨rfl, rfl⟩ ⟨Nat.le_of_ble_eq_true rfl, Nat.le_of_ble_eq_true rfl⟩ ⟨Nat.zero_le _, Nat.zero_le _⟩ rfl hl.1 rfl (Nat.le_of_ble_eq_true rfl) d_Mo_centre_128 (fun H locs hI => ?_)
    refine lv_lload hx hb d_Mo_centre_131 (lv_at hl 0 rfl) ?_
    refine lv_lmul hx hb d_Mo_centre_133 ?_
    refine fh_aload_n S d_Mo_centre_134 rfl (lv_at hl 4 rfl) ?_
    refine lv_iload_n hx hb d_Mo_centre_135 rfl (lv_at hl 7 rfl) ?_
    obtain ⟨o31, e_o31, hf⟩ := fh_b hf
    obtain ⟨r32, e_r32, hf⟩ := fh_b hf
    refine fh_callV (As := [.int a3]) (rest := [.long (r30.1 * r8.1), .long r25.1, va_rf (some o)]) S fT_good hE hI e_o31 rfl (c_Mo_px e_r32) fy_Mo_px fst_Mo_px k_143 ⟨rfl, rfl⟩ ⟨Nat.le_of_ble_eq_true rfl, Nat.le_of_ble_eq_true rfl⟩ ⟨Nat.zero_le _, Nat.zero_le _⟩ rfl hl.1 rfl (Nat.le_of_ble_eq_true rfl) d_Mo_centre_136 (fun H locs hI => ?_)
    refine fh_aload_n S d_Mo_centre_139 rfl (lv_at hl 4 rfl) ?_
    refine lv_iload_n hx hb d_Mo_centre_140 rfl (lv_at hl 5 rfl) ?_
    obtain ⟨o33, e_o33, hf⟩ := fh_b hf
    obtain ⟨r34, e_r34, hf⟩ := fh_b hf
    refine fh_callV (As := [.int a1]) (rest := [.long r32.1, .long (r30.1 * r8.1), .long r25.1, va_rf (some o)]) S fT_good hE hI e_o33 rfl (c_Mo_px e_r34) fy_Mo_px fst_Mo_px k_143 ⟨rfl, rfl⟩ ⟨Nat.le_of_ble_eq_true rfl, Nat.le_of_ble_eq_true rfl⟩ ⟨Nat.zero_le _, Nat.zero_le _⟩ rfl hl.1 rfl (Nat.le_of_ble_eq_true rfl) d_Mo_centre_141 (fun H locs hI => ?_)
    refine lv_lsub hx hb d_Mo_centre_144 ?_
    obtain ⟨r35, e_r35, hf⟩ := fh_b hf
    refine fh_callS (As := [.long (r32.1 - r34.1)]) (rest := [.long (r30.1 * r8.1), .long r25.1, va_rf (some o)]) S fT_good hE hI (c_Mo_mod e_r35) fy_Mo_mod fst_Mo_mod k_135 ⟨rfl, rfl⟩ ⟨Nat.le_of_ble_eq_true rfl, Nat.le_of_ble_eq_true rfl⟩ ⟨Nat.zero_le _, Nat.zero_le _⟩ rfl hl.1 rfl (Nat.le_of_ble_eq_true rfl) d_Mo_centre_145 (fun H locs hI => ?_)
    refine lv_lload hx hb d_Mo_centre_148 (lv_at hl 1 rfl) ?_
    refine lv_lmul hx hb d_Mo_centre_150 ?_
    refine lv_lsub hx hb d_Mo_centre_151 ?_
    obtain ⟨r36, e_r36, hf⟩ := fh_b hf
    refine fh_callS (As := [.long ((r30.1 * r8.1) - (r35.1 * r6.1))]) (rest := [.long r25.1, va_rf (some o)]) S fT_good hE hI (c_Mo_mod e_r36) fy_Mo_mod fst_Mo_mod k_135 ⟨rfl, rfl⟩ ⟨Nat.le_of_ble_eq_true rfl, Nat.le_of_ble_eq_true rfl⟩ ⟨Nat.zero_le _, Nat.zero_le _⟩ rfl hl.1 rfl (Nat.le_of_ble_eq_true rfl) d_Mo_centre_152 (fun H locs hI => ?_)
    refine lv_lload hx hb d_Mo_centre_155 (lv_at hl 2 rfl) ?_
    refine lv_lmul hx hb d_Mo_centre_157 ?_
    refine lv_ladd hx hb d_Mo_centre_158 ?_
    obtain ⟨r37, e_r37, hf⟩ := fh_b hf
    refine fh_callS (As := [.long (r25.1 + (r36.1 * r4.1))]) (rest := [va_rf (some o)]) S fT_good hE hI (c_Mo_mod e_r37) fy_Mo_mod fst_Mo_mod k_135 ⟨rfl, rfl⟩ ⟨Nat.le_of_ble_eq_true rfl, Nat.le_of_ble_eq_true rfl⟩ ⟨Nat.zero_le _, Nat.zero_le _⟩ rfl hl.1 rfl (Nat.le_of_ble_eq_true rfl) d_Mo_centre_159 (fun H locs hI => ?_)
    obtain ⟨h38, e_h38, hf⟩ := fh_b hf
    refine fh_putv S hE.1 hI e_h38 (hc := rfl) (hin := in_6) tok_6 nok_6 (by decide) (hts _ k_146) rfl rfl rfl d_Mo_centre_162 (fun H locs hI => ?_)
    obtain rfl := Option.some.inj hf
    exact fh_vret S hr hk hAe hI d_Mo_centre_165
  · replace hf := fh_t c_21 hf
    refine fh_aload_n S d_Mo_centre_24 rfl (lv_at hl 1 rfl) ?_
    refine lv_iconst (v := 1) hx hb d_Mo_centre_25 (by decide) ?_
    obtain ⟨h39, e_h39, hf⟩ := fh_b hf
    refine fh_putz S hE.1 hI e_h39 (hc := rfl) (hin := in_6) tok_6 nok_6 (by decide) (hts _ k_150) rfl rfl d_Mo_centre_26 (fun H locs hI => ?_)
    obtain rfl := Option.some.inj hf
    exact fh_vret S hr hk hAe hI d_Mo_centre_29
theorem d_Mo_meet_0 : decode c0_Mo_meet 0 = .ok (.aload_n 0, 1) := by decide +kernel
theorem d_Mo_meet_1 : decode c0_Mo_meet 1 = .ok (.iload_n 1, 1) := by decide +kernel
theorem d_Mo_meet_2 : decode c0_Mo_meet 2 = .ok (.iload_n 2, 1) := by decide +kernel
theorem d_Mo_meet_3 : decode c0_Mo_meet 3 = .ok (.iload_n 3, 1) := by decide +kernel
theorem d_Mo_meet_4 : decode c0_Mo_meet 4 = .ok (.iload 4, 2) := by decide +kernel
theorem d_Mo_meet_6 : decode c0_Mo_meet 6 = .ok (.invokevirtual 98, 3) := by decide +kernel
theorem d_Mo_meet_9 : decode c0_Mo_meet 9 = .ok (.lstore 5, 2) := by decide +kernel
theorem d_Mo_meet_11 : decode c0_Mo_meet 11 = .ok (.lload 5, 2) := by decide +kernel
theorem d_Mo_meet_13 : decode c0_Mo_meet 13 = .ok (.lconst 0, 1) := by decide +kernel
theorem d_Mo_meet_14 : decode c0_Mo_meet 14 = .ok (.lcmp, 1) := by decide +kernel
theorem d_Mo_meet_15 : decode c0_Mo_meet 15 = .ok (.ifCond .ne 9, 3) := by decide +kernel
theorem d_Mo_meet_18 : decode c0_Mo_meet 18 = .ok (.aload_n 0, 1) := by decide +kernel
theorem d_Mo_meet_19 : decode c0_Mo_meet 19 = .ok (.iconst 1, 1) := by decide +kernel
theorem d_Mo_meet_20 : decode c0_Mo_meet 20 = .ok (.putfield 85, 3) := by decide +kernel
theorem d_Mo_meet_23 : decode c0_Mo_meet 23 = .ok (.return_, 1) := by decide +kernel
theorem d_Mo_meet_24 : decode c0_Mo_meet 24 = .ok (.aload_n 0, 1) := by decide +kernel
theorem d_Mo_meet_25 : decode c0_Mo_meet 25 = .ok (.iload_n 1, 1) := by decide +kernel
theorem d_Mo_meet_26 : decode c0_Mo_meet 26 = .ok (.iload_n 2, 1) := by decide +kernel
theorem d_Mo_meet_27 : decode c0_Mo_meet 27 = .ok (.aload_n 0, 1) := by decide +kernel
theorem d_Mo_meet_28 : decode c0_Mo_meet 28 = .ok (.iload_n 1, 1) := by decide +kernel
theorem d_Mo_meet_29 : decode c0_Mo_meet 29 = .ok (.iload_n 3, 1) := by decide +kernel
theorem d_Mo_meet_30 : decode c0_Mo_meet 30 = .ok (.iload_n 3, 1) := by decide +kernel
theorem d_Mo_meet_31 : decode c0_Mo_meet 31 = .ok (.iload 4, 2) := by decide +kernel
theorem d_Mo_meet_33 : decode c0_Mo_meet 33 = .ok (.invokevirtual 98, 3) := by decide +kernel
theorem d_Mo_meet_36 : decode c0_Mo_meet 36 = .ok (.lload 5, 2) := by decide +kernel
theorem d_Mo_meet_38 : decode c0_Mo_meet 38 = .ok (.invokestatic 89, 3) := by decide +kernel
theorem d_Mo_meet_41 : decode c0_Mo_meet 41 = .ok (.lmul, 1) := by decide +kernel
theorem d_Mo_meet_42 : decode c0_Mo_meet 42 = .ok (.ldc2_w 49, 3) := by decide +kernel
theorem d_Mo_meet_45 : decode c0_Mo_meet 45 = .ok (.lrem, 1) := by decide +kernel
theorem d_Mo_meet_46 : decode c0_Mo_meet 46 = .ok (.invokevirtual 92, 3) := by decide +kernel
theorem d_Mo_meet_49 : decode c0_Mo_meet 49 = .ok (.return_, 1) := by decide +kernel
def f_Mo_meet (K : Nat → ClassId) (N : Nat) (o : Nat) (a1 : Int32) (a2 : Int32) (a3 : Int32) (a4 : Int32) (h0 : fh_H) : Option (fh_H) :=
  (fg_o h0 (some o) 6).bind fun o1 => (f_Mo_cross K N o1 a1 a2 a3 a4 h0).bind fun r2 => if (lg_cmp r2.1 0) = 0 then ((fp_z r2.2 (some o) 6 12 1).bind fun h8 => some h8) else ((fg_o r2.2 (some o) 6).bind fun o3 => (f_Mo_cross K N o3 a1 a3 a3 a4 r2.2).bind fun r4 => (f_Mo_inverse K N r2.1 r4.2).bind fun r5 => (fg_o r5.2 (some o) 6).bind fun o6 => (f_Mo_along K N o6 a1 a2 (fr_l (r4.1 * r5.1) 1000003) r5.2).bind fun r7 => some r7)
set_option maxHeartbeats 4000000 in
set_option maxRecDepth 100000 in
theorem c_Mo_meet {l : Launch} {D : va_G} {K : Nat → ClassId} {t : Nat → Nat} {N : Nat} {o : Nat} {a1 : Int32} {a2 : Int32} {a3 : Int32} {a4 : Int32} {h0 : fh_H} {res : fh_H} (hf : f_Mo_meet K N o a1 a2 a3 a4 h0 = some res) : fC l D K t y_Mo_meet c0_Mo_meet 7 none rm_Mo_meet [.ref o, .int a1, .int a2, .int a3, .int a4] h0 (none) res := by
  refine fh_body (by decide) (Nat.le_of_ble_eq_true rfl) ?_
  intro p e s m below meth c A ls S hr hk hnm hE hAe hI hl
  obtain ⟨hx, hb, hml, hown, hts⟩ := id S
  have hl : lv_has ls 7 [(0, va_rf (some o)), (1, .int a1), (2, .int a2), (3, .int a3), (4, .int a4)] := hl
  unfold f_Mo_meet at hf
  refine fh_aload_n S d_Mo_meet_0 rfl (lv_at hl 0 rfl) ?_
  refine lv_iload_n hx hb d_Mo_meet_1 rfl (lv_at hl 1 rfl) ?_
  refine lv_iload_n hx hb d_Mo_meet_2 rfl (lv_at hl 2 rfl) ?_
  refine lv_iload_n hx hb d_Mo_meet_3 rfl (lv_at hl 3 rfl) ?_
  refine lv_iload hx hb d_Mo_meet_4 (lv_at hl 4 rfl) ?_
  obtain ⟨o1, e_o1, hf⟩ := fh_b hf
  obtain ⟨r2, e_r2, hf⟩ := fh_b hf
  refine fh_callV (As := [.int a1, .int a2, .int a3, .int a4]) (rest := []) S fT_good hE hI e_o1 rfl (c_Mo_cross e_r2) fy_Mo_cross fst_Mo_cross k_151 ⟨rfl, rfl⟩ ⟨Nat.le_of_ble_eq_true rfl, Nat.le_of_ble_eq_true rfl⟩ ⟨Nat.zero_le _, Nat.zero_le _⟩ rfl hl.1 rfl (Nat.le_of_ble_eq_true rfl) d_Mo_meet_6 (fun H locs hI => ?_)
  refine lv_lstore (lv' := [(5, .long r2.1), (0, va_rf (some o)), (1, .int a1), (2, .int a2), (3, .int a3), (4, .int a4)]) hx hb d_Mo_meet_9 hl (by decide) rfl (fun ls hl => ?_)
  refine lv_lload hx hb d_Mo_meet_11 (lv_at hl 0 rfl) ?_
  refine lv_lconst (v := 0) hx hb d_Mo_meet_13 (by decide) ?_
  refine W.lcmp hx hb d_Mo_meet_14 ?_
  refine lv_if_ne (tgt := 24) hx hb d_Mo_meet_15 (by decide) (fun c_15 => ?_) (fun c_15 => ?_)
  · replace hf := fh_f c_15 hf
    refine fh_aload_n S d_Mo_meet_24 rfl (lv_at hl 1 rfl) ?_
    refine lv_iload_n hx hb d_Mo_meet_25 rfl (lv_at hl 2 rfl) ?_
    refine lv_iload_n hx hb d_Mo_meet_26 rfl (lv_at hl 3 rfl) ?_
    refine fh_aload_n S d_Mo_meet_27 rfl (lv_at hl 1 rfl) ?_
    refine lv_iload_n hx hb d_Mo_meet_28 rfl (lv_at hl 2 rfl) ?_
    refine lv_iload_n hx hb d_Mo_meet_29 rfl (lv_at hl 4 rfl) ?_
    refine lv_iload_n hx hb d_Mo_meet_30 rfl (lv_at hl 4 rfl) ?_
    refine lv_iload hx hb d_Mo_meet_31 (lv_at hl 5 rfl) ?_
    obtain ⟨o3, e_o3, hf⟩ := fh_b hf
    obtain ⟨r4, e_r4, hf⟩ := fh_b hf
    refine fh_callV (As := [.int a1, .int a3, .int a3, .int a4]) (rest := [.int a2, .int a1, va_rf (some o)]) S fT_good hE hI e_o3 rfl (c_Mo_cross e_r4) fy_Mo_cross fst_Mo_cross k_151 ⟨rfl, rfl⟩ ⟨Nat.le_of_ble_eq_true rfl, Nat.le_of_ble_eq_true rfl⟩ ⟨Nat.zero_le _, Nat.zero_le _⟩ rfl hl.1 rfl (Nat.le_of_ble_eq_true rfl) d_Mo_meet_33 (fun H locs hI => ?_)
    refine lv_lload hx hb d_Mo_meet_36 (lv_at hl 0 rfl) ?_
    obtain ⟨r5, e_r5, hf⟩ := fh_b hf
    refine fh_callS (As := [.long r2.1]) (rest := [.long r4.1, .int a2, .int a1, va_rf (some o)]) S fT_good hE hI (c_Mo_inverse e_r5) fy_Mo_inverse fst_Mo_inverse k_148 ⟨rfl, rfl⟩ ⟨Nat.le_of_ble_eq_true rfl, Nat.le_of_ble_eq_true rfl⟩ ⟨Nat.zero_le _, Nat.zero_le _⟩ rfl hl.1 rfl (Nat.le_of_ble_eq_true rfl) d_Mo_meet_38 (fun H locs hI => ?_)
    refine lv_lmul hx hb d_Mo_meet_41 ?_
    refine lv_ldc2 hx hb hown (hts _ k_134) d_Mo_meet_42 ?_
    refine fh_lrem S d_Mo_meet_45 (by decide) ?_
    obtain ⟨o6, e_o6, hf⟩ := fh_b hf
    obtain ⟨r7, e_r7, hf⟩ := fh_b hf
    refine fh_callV (As := [.int a1, .int a2, .long (fr_l (r4.1 * r5.1) 1000003)]) (rest := []) S fT_good hE hI e_o6 rfl (c_Mo_along e_r7) fy_Mo_along fst_Mo_along k_149 ⟨rfl, rfl⟩ ⟨Nat.le_of_ble_eq_true rfl, Nat.le_of_ble_eq_true rfl⟩ ⟨Nat.zero_le _, Nat.zero_le _⟩ rfl hl.1 rfl (Nat.le_of_ble_eq_true rfl) d_Mo_meet_46 (fun H locs hI => ?_)
    obtain rfl := Option.some.inj hf
    exact fh_vret S hr hk hAe hI d_Mo_meet_49
  · replace hf := fh_t c_15 hf
    refine fh_aload_n S d_Mo_meet_18 rfl (lv_at hl 1 rfl) ?_
    refine lv_iconst (v := 1) hx hb d_Mo_meet_19 (by decide) ?_
    obtain ⟨h8, e_h8, hf⟩ := fh_b hf
    refine fh_putz S hE.1 hI e_h8 (hc := rfl) (hin := in_6) tok_6 nok_6 (by decide) (hts _ k_150) rfl rfl d_Mo_meet_20 (fun H locs hI => ?_)
    obtain rfl := Option.some.inj hf
    exact fh_vret S hr hk hAe hI d_Mo_meet_23
theorem d_Mo_round_0 : decode c0_Mo_round 0 = .ok (.lconst 1, 1) := by decide +kernel
theorem d_Mo_round_1 : decode c0_Mo_round 1 = .ok (.lload_n 3, 1) := by decide +kernel
theorem d_Mo_round_2 : decode c0_Mo_round 2 = .ok (.lload_n 3, 1) := by decide +kernel
theorem d_Mo_round_3 : decode c0_Mo_round 3 = .ok (.lmul, 1) := by decide +kernel
theorem d_Mo_round_4 : decode c0_Mo_round 4 = .ok (.ladd, 1) := by decide +kernel
theorem d_Mo_round_5 : decode c0_Mo_round 5 = .ok (.invokestatic 51, 3) := by decide +kernel
theorem d_Mo_round_8 : decode c0_Mo_round 8 = .ok (.lstore 5, 2) := by decide +kernel
theorem d_Mo_round_10 : decode c0_Mo_round 10 = .ok (.lload 5, 2) := by decide +kernel
theorem d_Mo_round_12 : decode c0_Mo_round 12 = .ok (.lconst 0, 1) := by decide +kernel
theorem d_Mo_round_13 : decode c0_Mo_round 13 = .ok (.lcmp, 1) := by decide +kernel
theorem d_Mo_round_14 : decode c0_Mo_round 14 = .ok (.ifCond .ne 9, 3) := by decide +kernel
theorem d_Mo_round_17 : decode c0_Mo_round 17 = .ok (.aload_n 0, 1) := by decide +kernel
theorem d_Mo_round_18 : decode c0_Mo_round 18 = .ok (.iconst 1, 1) := by decide +kernel
theorem d_Mo_round_19 : decode c0_Mo_round 19 = .ok (.putfield 85, 3) := by decide +kernel
theorem d_Mo_round_22 : decode c0_Mo_round 22 = .ok (.return_, 1) := by decide +kernel
theorem d_Mo_round_23 : decode c0_Mo_round 23 = .ok (.ldc2_w 96, 3) := by decide +kernel
theorem d_Mo_round_26 : decode c0_Mo_round 26 = .ok (.aload_n 0, 1) := by decide +kernel
theorem d_Mo_round_27 : decode c0_Mo_round 27 = .ok (.iload_n 2, 1) := by decide +kernel
theorem d_Mo_round_28 : decode c0_Mo_round 28 = .ok (.invokevirtual 68, 3) := by decide +kernel
theorem d_Mo_round_31 : decode c0_Mo_round 31 = .ok (.aload_n 0, 1) := by decide +kernel
theorem d_Mo_round_32 : decode c0_Mo_round 32 = .ok (.iload_n 1, 1) := by decide +kernel
theorem d_Mo_round_33 : decode c0_Mo_round 33 = .ok (.invokevirtual 68, 3) := by decide +kernel
theorem d_Mo_round_36 : decode c0_Mo_round 36 = .ok (.lsub, 1) := by decide +kernel
theorem d_Mo_round_37 : decode c0_Mo_round 37 = .ok (.lload_n 3, 1) := by decide +kernel
theorem d_Mo_round_38 : decode c0_Mo_round 38 = .ok (.aload_n 0, 1) := by decide +kernel
theorem d_Mo_round_39 : decode c0_Mo_round 39 = .ok (.iload_n 2, 1) := by decide +kernel
theorem d_Mo_round_40 : decode c0_Mo_round 40 = .ok (.invokevirtual 72, 3) := by decide +kernel
theorem d_Mo_round_43 : decode c0_Mo_round 43 = .ok (.aload_n 0, 1) := by decide +kernel
theorem d_Mo_round_44 : decode c0_Mo_round 44 = .ok (.iload_n 1, 1) := by decide +kernel
theorem d_Mo_round_45 : decode c0_Mo_round 45 = .ok (.invokevirtual 72, 3) := by decide +kernel
theorem d_Mo_round_48 : decode c0_Mo_round 48 = .ok (.lsub, 1) := by decide +kernel
theorem d_Mo_round_49 : decode c0_Mo_round 49 = .ok (.invokestatic 51, 3) := by decide +kernel
theorem d_Mo_round_52 : decode c0_Mo_round 52 = .ok (.lmul, 1) := by decide +kernel
theorem d_Mo_round_53 : decode c0_Mo_round 53 = .ok (.ladd, 1) := by decide +kernel
theorem d_Mo_round_54 : decode c0_Mo_round 54 = .ok (.invokestatic 51, 3) := by decide +kernel
theorem d_Mo_round_57 : decode c0_Mo_round 57 = .ok (.lmul, 1) := by decide +kernel
theorem d_Mo_round_58 : decode c0_Mo_round 58 = .ok (.ldc2_w 49, 3) := by decide +kernel
theorem d_Mo_round_61 : decode c0_Mo_round 61 = .ok (.lrem, 1) := by decide +kernel
theorem d_Mo_round_62 : decode c0_Mo_round 62 = .ok (.lload 5, 2) := by decide +kernel
theorem d_Mo_round_64 : decode c0_Mo_round 64 = .ok (.invokestatic 89, 3) := by decide +kernel
theorem d_Mo_round_67 : decode c0_Mo_round 67 = .ok (.lmul, 1) := by decide +kernel
theorem d_Mo_round_68 : decode c0_Mo_round 68 = .ok (.invokestatic 51, 3) := by decide +kernel
theorem d_Mo_round_71 : decode c0_Mo_round 71 = .ok (.lstore 7, 2) := by decide +kernel
theorem d_Mo_round_73 : decode c0_Mo_round 73 = .ok (.aload_n 0, 1) := by decide +kernel
theorem d_Mo_round_74 : decode c0_Mo_round 74 = .ok (.aload_n 0, 1) := by decide +kernel
theorem d_Mo_round_75 : decode c0_Mo_round 75 = .ok (.iload_n 2, 1) := by decide +kernel
theorem d_Mo_round_76 : decode c0_Mo_round 76 = .ok (.invokevirtual 68, 3) := by decide +kernel
theorem d_Mo_round_79 : decode c0_Mo_round 79 = .ok (.lload 7, 2) := by decide +kernel
theorem d_Mo_round_81 : decode c0_Mo_round 81 = .ok (.lsub, 1) := by decide +kernel
theorem d_Mo_round_82 : decode c0_Mo_round 82 = .ok (.invokestatic 51, 3) := by decide +kernel
theorem d_Mo_round_85 : decode c0_Mo_round 85 = .ok (.putfield 75, 3) := by decide +kernel
theorem d_Mo_round_88 : decode c0_Mo_round 88 = .ok (.aload_n 0, 1) := by decide +kernel
theorem d_Mo_round_89 : decode c0_Mo_round 89 = .ok (.aload_n 0, 1) := by decide +kernel
theorem d_Mo_round_90 : decode c0_Mo_round 90 = .ok (.iload_n 2, 1) := by decide +kernel
theorem d_Mo_round_91 : decode c0_Mo_round 91 = .ok (.invokevirtual 72, 3) := by decide +kernel
theorem d_Mo_round_94 : decode c0_Mo_round 94 = .ok (.lload 7, 2) := by decide +kernel
theorem d_Mo_round_96 : decode c0_Mo_round 96 = .ok (.lload_n 3, 1) := by decide +kernel
theorem d_Mo_round_97 : decode c0_Mo_round 97 = .ok (.lmul, 1) := by decide +kernel
theorem d_Mo_round_98 : decode c0_Mo_round 98 = .ok (.lsub, 1) := by decide +kernel
theorem d_Mo_round_99 : decode c0_Mo_round 99 = .ok (.invokestatic 51, 3) := by decide +kernel
theorem d_Mo_round_102 : decode c0_Mo_round 102 = .ok (.putfield 78, 3) := by decide +kernel
theorem d_Mo_round_105 : decode c0_Mo_round 105 = .ok (.return_, 1) := by decide +kernel
def f_Mo_round (K : Nat → ClassId) (N : Nat) (o : Nat) (a1 : Int32) (a2 : Int32) (a3 : Int64) (h0 : fh_H) : Option (fh_H) :=
  (f_Mo_mod K N (1 + (a3 * a3)) h0).bind fun r1 => if (lg_cmp r1.1 0) = 0 then ((fp_z r1.2 (some o) 6 12 1).bind fun h22 => some h22) else ((fg_o r1.2 (some o) 6).bind fun o2 => (f_Mo_px K N o2 a2 r1.2).bind fun r3 => (fg_o r3.2 (some o) 6).bind fun o4 => (f_Mo_px K N o4 a1 r3.2).bind fun r5 => (fg_o r5.2 (some o) 6).bind fun o6 => (f_Mo_py K N o6 a2 r5.2).bind fun r7 => (fg_o r7.2 (some o) 6).bind fun o8 => (f_Mo_py K N o8 a1 r7.2).bind fun r9 => (f_Mo_mod K N (r7.1 - r9.1) r9.2).bind fun r10 => (f_Mo_mod K N ((r3.1 - r5.1) + (a3 * r10.1)) r10.2).bind fun r11 => (f_Mo_inverse K N r1.1 r11.2).bind fun r12 => (f_Mo_mod K N ((fr_l (2 * r11.1) 1000003) * r12.1) r12.2).bind fun r13 => (fg_o r13.2 (some o) 6).bind fun o14 => (f_Mo_px K N o14 a2 r13.2).bind fun r15 => (f_Mo_mod K N (r15.1 - r13.1) r15.2).bind fun r16 => (fp_v r16.2 (some o) 6 10 (.long r16.1)).bind fun h17 => (fg_o h17 (some o) 6).bind fun o18 => (f_Mo_py K N o18 a2 h17).bind fun r19 => (f_Mo_mod K N (r19.1 - (r13.1 * a3)) r19.2).bind fun r20 => (fp_v r20.2 (some o) 6 11 (.long r20.1)).bind fun h21 => some h21)
set_option maxHeartbeats 4000000 in
set_option maxRecDepth 100000 in
theorem c_Mo_round {l : Launch} {D : va_G} {K : Nat → ClassId} {t : Nat → Nat} {N : Nat} {o : Nat} {a1 : Int32} {a2 : Int32} {a3 : Int64} {h0 : fh_H} {res : fh_H} (hf : f_Mo_round K N o a1 a2 a3 h0 = some res) : fC l D K t y_Mo_round c0_Mo_round 9 none rm_Mo_round [.ref o, .int a1, .int a2, .long a3] h0 (none) res := by
  refine fh_body (by decide) (Nat.le_of_ble_eq_true rfl) ?_
  intro p e s m below meth c A ls S hr hk hnm hE hAe hI hl
  obtain ⟨hx, hb, hml, hown, hts⟩ := id S
  have hl : lv_has ls 9 [(0, va_rf (some o)), (1, .int a1), (2, .int a2), (3, .long a3)] := hl
  unfold f_Mo_round at hf
  refine lv_lconst (v := 1) hx hb d_Mo_round_0 (by decide) ?_
  refine lv_lload_n hx hb d_Mo_round_1 rfl (lv_at hl 3 rfl) ?_
  refine lv_lload_n hx hb d_Mo_round_2 rfl (lv_at hl 3 rfl) ?_
  refine lv_lmul hx hb d_Mo_round_3 ?_
  refine lv_ladd hx hb d_Mo_round_4 ?_
  obtain ⟨r1, e_r1, hf⟩ := fh_b hf
  refine fh_callS (As := [.long (1 + (a3 * a3))]) (rest := []) S fT_good hE hI (c_Mo_mod e_r1) fy_Mo_mod fst_Mo_mod k_135 ⟨rfl, rfl⟩ ⟨Nat.le_of_ble_eq_true rfl, Nat.le_of_ble_eq_true rfl⟩ ⟨Nat.zero_le _, Nat.zero_le _⟩ rfl hl.1 rfl (Nat.le_of_ble_eq_true rfl) d_Mo_round_5 (fun H locs hI => ?_)
  refine lv_lstore (lv' := [(5, .long r1.1), (0, va_rf (some o)), (1, .int a1), (2, .int a2), (3, .long a3)]) hx hb d_Mo_round_8 hl (by decide) rfl (fun ls hl => ?_)
  refine lv_lload hx hb d_Mo_round_10 (lv_at hl 0 rfl) ?_
  refine lv_lconst (v := 0) hx hb d_Mo_round_12 (by decide) ?_
  refine W.lcmp hx hb d_Mo_round_13 ?_
  refine lv_if_ne (tgt := 23) hx hb d_Mo_round_14 (by decide) (fun c_14 => ?_) (fun c_14 => ?_)
  · replace hf := fh_f c_14 hf
    refine lv_ldc2 hx hb hown (hts _ k_152) d_Mo_round_23 ?_
    refine fh_aload_n S d_Mo_round_26 rfl (lv_at hl 1 rfl) ?_
    refine lv_iload_n hx hb d_Mo_round_27 rfl (lv_at hl 3 rfl) ?_
    obtain ⟨o2, e_o2, hf⟩ := fh_b hf
    obtain ⟨r3, e_r3, hf⟩ := fh_b hf
    refine fh_callV (As := [.int a2]) (rest := [.long 2]) S fT_good hE hI e_o2 rfl (c_Mo_px e_r3) fy_Mo_px fst_Mo_px k_143 ⟨rfl, rfl⟩ ⟨Nat.le_of_ble_eq_true rfl, Nat.le_of_ble_eq_true rfl⟩ ⟨Nat.zero_le _, Nat.zero_le _⟩ rfl hl.1 rfl (Nat.le_of_ble_eq_true rfl) d_Mo_round_28 (fun H locs hI => ?_)
    refine fh_aload_n S d_Mo_round_31 rfl (lv_at hl 1 rfl) ?_
    refine lv_iload_n hx hb d_Mo_round_32 rfl (lv_at hl 2 rfl) ?_
    obtain ⟨o4, e_o4, hf⟩ := fh_b hf
    obtain ⟨r5, e_r5, hf⟩ := fh_b hf
    refine fh_callV (As := [.int a1]) (rest := [.long r3.1, .long 2]) S fT_good hE hI e_o4 rfl (c_Mo_px e_r5) fy_Mo_px fst_Mo_px k_143 ⟨rfl, rfl⟩ ⟨Nat.le_of_ble_eq_true rfl, Nat.le_of_ble_eq_true rfl⟩ ⟨Nat.zero_le _, Nat.zero_le _⟩ rfl hl.1 rfl (Nat.le_of_ble_eq_true rfl) d_Mo_round_33 (fun H locs hI => ?_)
    refine lv_lsub hx hb d_Mo_round_36 ?_
    refine lv_lload_n hx hb d_Mo_round_37 rfl (lv_at hl 4 rfl) ?_
    refine fh_aload_n S d_Mo_round_38 rfl (lv_at hl 1 rfl) ?_
    refine lv_iload_n hx hb d_Mo_round_39 rfl (lv_at hl 3 rfl) ?_
    obtain ⟨o6, e_o6, hf⟩ := fh_b hf
    obtain ⟨r7, e_r7, hf⟩ := fh_b hf
    refine fh_callV (As := [.int a2]) (rest := [.long a3, .long (r3.1 - r5.1), .long 2]) S fT_good hE hI e_o6 rfl (c_Mo_py e_r7) fy_Mo_py fst_Mo_py k_144 ⟨rfl, rfl⟩ ⟨Nat.le_of_ble_eq_true rfl, Nat.le_of_ble_eq_true rfl⟩ ⟨Nat.zero_le _, Nat.zero_le _⟩ rfl hl.1 rfl (Nat.le_of_ble_eq_true rfl) d_Mo_round_40 (fun H locs hI => ?_)
    refine fh_aload_n S d_Mo_round_43 rfl (lv_at hl 1 rfl) ?_
    refine lv_iload_n hx hb d_Mo_round_44 rfl (lv_at hl 2 rfl) ?_
    obtain ⟨o8, e_o8, hf⟩ := fh_b hf
    obtain ⟨r9, e_r9, hf⟩ := fh_b hf
    refine fh_callV (As := [.int a1]) (rest := [.long r7.1, .long a3, .long (r3.1 - r5.1), .long 2]) S fT_good hE hI e_o8 rfl (c_Mo_py e_r9) fy_Mo_py fst_Mo_py k_144 ⟨rfl, rfl⟩ ⟨Nat.le_of_ble_eq_true rfl, Nat.le_of_ble_eq_true rfl⟩ ⟨Nat.zero_le _, Nat.zero_le _⟩ rfl hl.1 rfl (Nat.le_of_ble_eq_true rfl) d_Mo_round_45 (fun H locs hI => ?_)
    refine lv_lsub hx hb d_Mo_round_48 ?_
    obtain ⟨r10, e_r10, hf⟩ := fh_b hf
    refine fh_callS (As := [.long (r7.1 - r9.1)]) (rest := [.long a3, .long (r3.1 - r5.1), .long 2]) S fT_good hE hI (c_Mo_mod e_r10) fy_Mo_mod fst_Mo_mod k_135 ⟨rfl, rfl⟩ ⟨Nat.le_of_ble_eq_true rfl, Nat.le_of_ble_eq_true rfl⟩ ⟨Nat.zero_le _, Nat.zero_le _⟩ rfl hl.1 rfl (Nat.le_of_ble_eq_true rfl) d_Mo_round_49 (fun H locs hI => ?_)
    refine lv_lmul hx hb d_Mo_round_52 ?_
    refine lv_ladd hx hb d_Mo_round_53 ?_
    obtain ⟨r11, e_r11, hf⟩ := fh_b hf
    refine fh_callS (As := [.long ((r3.1 - r5.1) + (a3 * r10.1))]) (rest := [.long 2]) S fT_good hE hI (c_Mo_mod e_r11) fy_Mo_mod fst_Mo_mod k_135 ⟨rfl, rfl⟩ ⟨Nat.le_of_ble_eq_true rfl, Nat.le_of_ble_eq_true rfl⟩ ⟨Nat.zero_le _, Nat.zero_le _⟩ rfl hl.1 rfl (Nat.le_of_ble_eq_true rfl) d_Mo_round_54 (fun H locs hI => ?_)
    refine lv_lmul hx hb d_Mo_round_57 ?_
    refine lv_ldc2 hx hb hown (hts _ k_134) d_Mo_round_58 ?_
    refine fh_lrem S d_Mo_round_61 (by decide) ?_
    refine lv_lload hx hb d_Mo_round_62 (lv_at hl 0 rfl) ?_
    obtain ⟨r12, e_r12, hf⟩ := fh_b hf
    refine fh_callS (As := [.long r1.1]) (rest := [.long (fr_l (2 * r11.1) 1000003)]) S fT_good hE hI (c_Mo_inverse e_r12) fy_Mo_inverse fst_Mo_inverse k_148 ⟨rfl, rfl⟩ ⟨Nat.le_of_ble_eq_true rfl, Nat.le_of_ble_eq_true rfl⟩ ⟨Nat.zero_le _, Nat.zero_le _⟩ rfl hl.1 rfl (Nat.le_of_ble_eq_true rfl) d_Mo_round_64 (fun H locs hI => ?_)
    refine lv_lmul hx hb d_Mo_round_67 ?_
    obtain ⟨r13, e_r13, hf⟩ := fh_b hf
    refine fh_callS (As := [.long ((fr_l (2 * r11.1) 1000003) * r12.1)]) (rest := []) S fT_good hE hI (c_Mo_mod e_r13) fy_Mo_mod fst_Mo_mod k_135 ⟨rfl, rfl⟩ ⟨Nat.le_of_ble_eq_true rfl, Nat.le_of_ble_eq_true rfl⟩ ⟨Nat.zero_le _, Nat.zero_le _⟩ rfl hl.1 rfl (Nat.le_of_ble_eq_true rfl) d_Mo_round_68 (fun H locs hI => ?_)
    refine lv_lstore (lv' := [(7, .long r13.1), (5, .long r1.1), (0, va_rf (some o)), (1, .int a1), (2, .int a2), (3, .long a3)]) hx hb d_Mo_round_71 hl (by decide) rfl (fun ls hl => ?_)
    refine fh_aload_n S d_Mo_round_73 rfl (lv_at hl 2 rfl) ?_
    refine fh_aload_n S d_Mo_round_74 rfl (lv_at hl 2 rfl) ?_
    refine lv_iload_n hx hb d_Mo_round_75 rfl (lv_at hl 4 rfl) ?_
    obtain ⟨o14, e_o14, hf⟩ := fh_b hf
    obtain ⟨r15, e_r15, hf⟩ := fh_b hf
    refine fh_callV (As := [.int a2]) (rest := [va_rf (some o)]) S fT_good hE hI e_o14 rfl (c_Mo_px e_r15) fy_Mo_px fst_Mo_px k_143 ⟨rfl, rfl⟩ ⟨Nat.le_of_ble_eq_true rfl, Nat.le_of_ble_eq_true rfl⟩ ⟨Nat.zero_le _, Nat.zero_le _⟩ rfl hl.1 rfl (Nat.le_of_ble_eq_true rfl) d_Mo_round_76 (fun H locs hI => ?_)
    refine lv_lload hx hb d_Mo_round_79 (lv_at hl 0 rfl) ?_
    refine lv_lsub hx hb d_Mo_round_81 ?_
    obtain ⟨r16, e_r16, hf⟩ := fh_b hf
    refine fh_callS (As := [.long (r15.1 - r13.1)]) (rest := [va_rf (some o)]) S fT_good hE hI (c_Mo_mod e_r16) fy_Mo_mod fst_Mo_mod k_135 ⟨rfl, rfl⟩ ⟨Nat.le_of_ble_eq_true rfl, Nat.le_of_ble_eq_true rfl⟩ ⟨Nat.zero_le _, Nat.zero_le _⟩ rfl hl.1 rfl (Nat.le_of_ble_eq_true rfl) d_Mo_round_82 (fun H locs hI => ?_)
    obtain ⟨h17, e_h17, hf⟩ := fh_b hf
    refine fh_putv S hE.1 hI e_h17 (hc := rfl) (hin := in_6) tok_6 nok_6 (by decide) (hts _ k_145) rfl rfl rfl d_Mo_round_85 (fun H locs hI => ?_)
    refine fh_aload_n S d_Mo_round_88 rfl (lv_at hl 2 rfl) ?_
    refine fh_aload_n S d_Mo_round_89 rfl (lv_at hl 2 rfl) ?_
    refine lv_iload_n hx hb d_Mo_round_90 rfl (lv_at hl 4 rfl) ?_
    obtain ⟨o18, e_o18, hf⟩ := fh_b hf
    obtain ⟨r19, e_r19, hf⟩ := fh_b hf
    refine fh_callV (As := [.int a2]) (rest := [va_rf (some o)]) S fT_good hE hI e_o18 rfl (c_Mo_py e_r19) fy_Mo_py fst_Mo_py k_144 ⟨rfl, rfl⟩ ⟨Nat.le_of_ble_eq_true rfl, Nat.le_of_ble_eq_true rfl⟩ ⟨Nat.zero_le _, Nat.zero_le _⟩ rfl hl.1 rfl (Nat.le_of_ble_eq_true rfl) d_Mo_round_91 (fun H locs hI => ?_)
    refine lv_lload hx hb d_Mo_round_94 (lv_at hl 0 rfl) ?_
    refine lv_lload_n hx hb d_Mo_round_96 rfl (lv_at hl 5 rfl) ?_
    refine lv_lmul hx hb d_Mo_round_97 ?_
    refine lv_lsub hx hb d_Mo_round_98 ?_
    obtain ⟨r20, e_r20, hf⟩ := fh_b hf
    refine fh_callS (As := [.long (r19.1 - (r13.1 * a3))]) (rest := [va_rf (some o)]) S fT_good hE hI (c_Mo_mod e_r20) fy_Mo_mod fst_Mo_mod k_135 ⟨rfl, rfl⟩ ⟨Nat.le_of_ble_eq_true rfl, Nat.le_of_ble_eq_true rfl⟩ ⟨Nat.zero_le _, Nat.zero_le _⟩ rfl hl.1 rfl (Nat.le_of_ble_eq_true rfl) d_Mo_round_99 (fun H locs hI => ?_)
    obtain ⟨h21, e_h21, hf⟩ := fh_b hf
    refine fh_putv S hE.1 hI e_h21 (hc := rfl) (hin := in_6) tok_6 nok_6 (by decide) (hts _ k_146) rfl rfl rfl d_Mo_round_102 (fun H locs hI => ?_)
    obtain rfl := Option.some.inj hf
    exact fh_vret S hr hk hAe hI d_Mo_round_105
  · replace hf := fh_t c_14 hf
    refine fh_aload_n S d_Mo_round_17 rfl (lv_at hl 1 rfl) ?_
    refine lv_iconst (v := 1) hx hb d_Mo_round_18 (by decide) ?_
    obtain ⟨h22, e_h22, hf⟩ := fh_b hf
    refine fh_putz S hE.1 hI e_h22 (hc := rfl) (hin := in_6) tok_6 nok_6 (by decide) (hts _ k_150) rfl rfl d_Mo_round_19 (fun H locs hI => ?_)
    obtain rfl := Option.some.inj hf
    exact fh_vret S hr hk hAe hI d_Mo_round_22
theorem d_Mo_turnOut_0 : decode c0_Mo_turnOut 0 = .ok (.aload_n 0, 1) := by decide +kernel
theorem d_Mo_turnOut_1 : decode c0_Mo_turnOut 1 = .ok (.iload_n 2, 1) := by decide +kernel
theorem d_Mo_turnOut_2 : decode c0_Mo_turnOut 2 = .ok (.iload_n 1, 1) := by decide +kernel
theorem d_Mo_turnOut_3 : decode c0_Mo_turnOut 3 = .ok (.iload_n 2, 1) := by decide +kernel
theorem d_Mo_turnOut_4 : decode c0_Mo_turnOut 4 = .ok (.iload_n 1, 1) := by decide +kernel
theorem d_Mo_turnOut_5 : decode c0_Mo_turnOut 5 = .ok (.invokevirtual 81, 3) := by decide +kernel
theorem d_Mo_turnOut_8 : decode c0_Mo_turnOut 8 = .ok (.lstore 4, 2) := by decide +kernel
theorem d_Mo_turnOut_10 : decode c0_Mo_turnOut 10 = .ok (.lload 4, 2) := by decide +kernel
theorem d_Mo_turnOut_12 : decode c0_Mo_turnOut 12 = .ok (.lconst 0, 1) := by decide +kernel
theorem d_Mo_turnOut_13 : decode c0_Mo_turnOut 13 = .ok (.lcmp, 1) := by decide +kernel
theorem d_Mo_turnOut_14 : decode c0_Mo_turnOut 14 = .ok (.ifCond .ne 9, 3) := by decide +kernel
theorem d_Mo_turnOut_17 : decode c0_Mo_turnOut 17 = .ok (.aload_n 0, 1) := by decide +kernel
theorem d_Mo_turnOut_18 : decode c0_Mo_turnOut 18 = .ok (.iconst 1, 1) := by decide +kernel
theorem d_Mo_turnOut_19 : decode c0_Mo_turnOut 19 = .ok (.putfield 85, 3) := by decide +kernel
theorem d_Mo_turnOut_22 : decode c0_Mo_turnOut 22 = .ok (.return_, 1) := by decide +kernel
theorem d_Mo_turnOut_23 : decode c0_Mo_turnOut 23 = .ok (.aload_n 0, 1) := by decide +kernel
theorem d_Mo_turnOut_24 : decode c0_Mo_turnOut 24 = .ok (.iload_n 2, 1) := by decide +kernel
theorem d_Mo_turnOut_25 : decode c0_Mo_turnOut 25 = .ok (.iload_n 1, 1) := by decide +kernel
theorem d_Mo_turnOut_26 : decode c0_Mo_turnOut 26 = .ok (.aload_n 0, 1) := by decide +kernel
theorem d_Mo_turnOut_27 : decode c0_Mo_turnOut 27 = .ok (.iload_n 2, 1) := by decide +kernel
theorem d_Mo_turnOut_28 : decode c0_Mo_turnOut 28 = .ok (.iload_n 3, 1) := by decide +kernel
theorem d_Mo_turnOut_29 : decode c0_Mo_turnOut 29 = .ok (.iload_n 2, 1) := by decide +kernel
theorem d_Mo_turnOut_30 : decode c0_Mo_turnOut 30 = .ok (.iload_n 3, 1) := by decide +kernel
theorem d_Mo_turnOut_31 : decode c0_Mo_turnOut 31 = .ok (.invokevirtual 81, 3) := by decide +kernel
theorem d_Mo_turnOut_34 : decode c0_Mo_turnOut 34 = .ok (.lload 4, 2) := by decide +kernel
theorem d_Mo_turnOut_36 : decode c0_Mo_turnOut 36 = .ok (.invokestatic 89, 3) := by decide +kernel
theorem d_Mo_turnOut_39 : decode c0_Mo_turnOut 39 = .ok (.lmul, 1) := by decide +kernel
theorem d_Mo_turnOut_40 : decode c0_Mo_turnOut 40 = .ok (.ldc2_w 49, 3) := by decide +kernel
theorem d_Mo_turnOut_43 : decode c0_Mo_turnOut 43 = .ok (.lrem, 1) := by decide +kernel
theorem d_Mo_turnOut_44 : decode c0_Mo_turnOut 44 = .ok (.invokevirtual 92, 3) := by decide +kernel
theorem d_Mo_turnOut_47 : decode c0_Mo_turnOut 47 = .ok (.return_, 1) := by decide +kernel
def f_Mo_turnOut (K : Nat → ClassId) (N : Nat) (o : Nat) (a1 : Int32) (a2 : Int32) (a3 : Int32) (h0 : fh_H) : Option (fh_H) :=
  (fg_o h0 (some o) 6).bind fun o1 => (f_Mo_dot K N o1 a2 a1 a2 a1 h0).bind fun r2 => if (lg_cmp r2.1 0) = 0 then ((fp_z r2.2 (some o) 6 12 1).bind fun h8 => some h8) else ((fg_o r2.2 (some o) 6).bind fun o3 => (f_Mo_dot K N o3 a2 a3 a2 a3 r2.2).bind fun r4 => (f_Mo_inverse K N r2.1 r4.2).bind fun r5 => (fg_o r5.2 (some o) 6).bind fun o6 => (f_Mo_along K N o6 a2 a1 (fr_l (r4.1 * r5.1) 1000003) r5.2).bind fun r7 => some r7)
set_option maxHeartbeats 4000000 in
set_option maxRecDepth 100000 in
theorem c_Mo_turnOut {l : Launch} {D : va_G} {K : Nat → ClassId} {t : Nat → Nat} {N : Nat} {o : Nat} {a1 : Int32} {a2 : Int32} {a3 : Int32} {h0 : fh_H} {res : fh_H} (hf : f_Mo_turnOut K N o a1 a2 a3 h0 = some res) : fC l D K t y_Mo_turnOut c0_Mo_turnOut 6 none rm_Mo_turnOut [.ref o, .int a1, .int a2, .int a3] h0 (none) res := by
  refine fh_body (by decide) (Nat.le_of_ble_eq_true rfl) ?_
  intro p e s m below meth c A ls S hr hk hnm hE hAe hI hl
  obtain ⟨hx, hb, hml, hown, hts⟩ := id S
  have hl : lv_has ls 6 [(0, va_rf (some o)), (1, .int a1), (2, .int a2), (3, .int a3)] := hl
  unfold f_Mo_turnOut at hf
  refine fh_aload_n S d_Mo_turnOut_0 rfl (lv_at hl 0 rfl) ?_
  refine lv_iload_n hx hb d_Mo_turnOut_1 rfl (lv_at hl 2 rfl) ?_
  refine lv_iload_n hx hb d_Mo_turnOut_2 rfl (lv_at hl 1 rfl) ?_
  refine lv_iload_n hx hb d_Mo_turnOut_3 rfl (lv_at hl 2 rfl) ?_
  refine lv_iload_n hx hb d_Mo_turnOut_4 rfl (lv_at hl 1 rfl) ?_
  obtain ⟨o1, e_o1, hf⟩ := fh_b hf
  obtain ⟨r2, e_r2, hf⟩ := fh_b hf
  refine fh_callV (As := [.int a2, .int a1, .int a2, .int a1]) (rest := []) S fT_good hE hI e_o1 rfl (c_Mo_dot e_r2) fy_Mo_dot fst_Mo_dot k_147 ⟨rfl, rfl⟩ ⟨Nat.le_of_ble_eq_true rfl, Nat.le_of_ble_eq_true rfl⟩ ⟨Nat.zero_le _, Nat.zero_le _⟩ rfl hl.1 rfl (Nat.le_of_ble_eq_true rfl) d_Mo_turnOut_5 (fun H locs hI => ?_)
  refine lv_lstore (lv' := [(4, .long r2.1), (0, va_rf (some o)), (1, .int a1), (2, .int a2), (3, .int a3)]) hx hb d_Mo_turnOut_8 hl (by decide) rfl (fun ls hl => ?_)
  refine lv_lload hx hb d_Mo_turnOut_10 (lv_at hl 0 rfl) ?_
  refine lv_lconst (v := 0) hx hb d_Mo_turnOut_12 (by decide) ?_
  refine W.lcmp hx hb d_Mo_turnOut_13 ?_
  refine lv_if_ne (tgt := 23) hx hb d_Mo_turnOut_14 (by decide) (fun c_14 => ?_) (fun c_14 => ?_)
  · replace hf := fh_f c_14 hf
    refine fh_aload_n S d_Mo_turnOut_23 rfl (lv_at hl 1 rfl) ?_
    refine lv_iload_n hx hb d_Mo_turnOut_24 rfl (lv_at hl 3 rfl) ?_
    refine lv_iload_n hx hb d_Mo_turnOut_25 rfl (lv_at hl 2 rfl) ?_
    refine fh_aload_n S d_Mo_turnOut_26 rfl (lv_at hl 1 rfl) ?_
    refine lv_iload_n hx hb d_Mo_turnOut_27 rfl (lv_at hl 3 rfl) ?_
    refine lv_iload_n hx hb d_Mo_turnOut_28 rfl (lv_at hl 4 rfl) ?_
    refine lv_iload_n hx hb d_Mo_turnOut_29 rfl (lv_at hl 3 rfl) ?_
    refine lv_iload_n hx hb d_Mo_turnOut_30 rfl (lv_at hl 4 rfl) ?_
    obtain ⟨o3, e_o3, hf⟩ := fh_b hf
    obtain ⟨r4, e_r4, hf⟩ := fh_b hf
    refine fh_callV (As := [.int a2, .int a3, .int a2, .int a3]) (rest := [.int a1, .int a2, va_rf (some o)]) S fT_good hE hI e_o3 rfl (c_Mo_dot e_r4) fy_Mo_dot fst_Mo_dot k_147 ⟨rfl, rfl⟩ ⟨Nat.le_of_ble_eq_true rfl, Nat.le_of_ble_eq_true rfl⟩ ⟨Nat.zero_le _, Nat.zero_le _⟩ rfl hl.1 rfl (Nat.le_of_ble_eq_true rfl) d_Mo_turnOut_31 (fun H locs hI => ?_)
    refine lv_lload hx hb d_Mo_turnOut_34 (lv_at hl 0 rfl) ?_
    obtain ⟨r5, e_r5, hf⟩ := fh_b hf
    refine fh_callS (As := [.long r2.1]) (rest := [.long r4.1, .int a1, .int a2, va_rf (some o)]) S fT_good hE hI (c_Mo_inverse e_r5) fy_Mo_inverse fst_Mo_inverse k_148 ⟨rfl, rfl⟩ ⟨Nat.le_of_ble_eq_true rfl, Nat.le_of_ble_eq_true rfl⟩ ⟨Nat.zero_le _, Nat.zero_le _⟩ rfl hl.1 rfl (Nat.le_of_ble_eq_true rfl) d_Mo_turnOut_36 (fun H locs hI => ?_)
    refine lv_lmul hx hb d_Mo_turnOut_39 ?_
    refine lv_ldc2 hx hb hown (hts _ k_134) d_Mo_turnOut_40 ?_
    refine fh_lrem S d_Mo_turnOut_43 (by decide) ?_
    obtain ⟨o6, e_o6, hf⟩ := fh_b hf
    obtain ⟨r7, e_r7, hf⟩ := fh_b hf
    refine fh_callV (As := [.int a2, .int a1, .long (fr_l (r4.1 * r5.1) 1000003)]) (rest := []) S fT_good hE hI e_o6 rfl (c_Mo_along e_r7) fy_Mo_along fst_Mo_along k_149 ⟨rfl, rfl⟩ ⟨Nat.le_of_ble_eq_true rfl, Nat.le_of_ble_eq_true rfl⟩ ⟨Nat.zero_le _, Nat.zero_le _⟩ rfl hl.1 rfl (Nat.le_of_ble_eq_true rfl) d_Mo_turnOut_44 (fun H locs hI => ?_)
    obtain rfl := Option.some.inj hf
    exact fh_vret S hr hk hAe hI d_Mo_turnOut_47
  · replace hf := fh_t c_14 hf
    refine fh_aload_n S d_Mo_turnOut_17 rfl (lv_at hl 1 rfl) ?_
    refine lv_iconst (v := 1) hx hb d_Mo_turnOut_18 (by decide) ?_
    obtain ⟨h8, e_h8, hf⟩ := fh_b hf
    refine fh_putz S hE.1 hI e_h8 (hc := rfl) (hin := in_6) tok_6 nok_6 (by decide) (hts _ k_150) rfl rfl d_Mo_turnOut_19 (fun H locs hI => ?_)
    obtain rfl := Option.some.inj hf
    exact fh_vret S hr hk hAe hI d_Mo_turnOut_22
theorem d_Mo_doMore_0 : decode c0_Mo_doMore 0 = .ok (.iload_n 1, 1) := by decide +kernel
theorem d_Mo_doMore_1 : decode c0_Mo_doMore 1 = .ok (.tableswitch 311 7 12 #[39, 90, 143, 156, 169, 244], 39) := by decide +kernel
theorem d_Mo_doMore_40 : decode c0_Mo_doMore 40 = .ok (.aload_n 0, 1) := by decide +kernel
theorem d_Mo_doMore_41 : decode c0_Mo_doMore 41 = .ok (.aload_n 0, 1) := by decide +kernel
theorem d_Mo_doMore_42 : decode c0_Mo_doMore 42 = .ok (.iload_n 3, 1) := by decide +kernel
theorem d_Mo_doMore_43 : decode c0_Mo_doMore 43 = .ok (.invokevirtual 68, 3) := by decide +kernel
theorem d_Mo_doMore_46 : decode c0_Mo_doMore 46 = .ok (.aload_n 0, 1) := by decide +kernel
theorem d_Mo_doMore_47 : decode c0_Mo_doMore 47 = .ok (.iload_n 2, 1) := by decide +kernel
theorem d_Mo_doMore_48 : decode c0_Mo_doMore 48 = .ok (.invokevirtual 72, 3) := by decide +kernel
theorem d_Mo_doMore_51 : decode c0_Mo_doMore 51 = .ok (.lsub, 1) := by decide +kernel
theorem d_Mo_doMore_52 : decode c0_Mo_doMore 52 = .ok (.aload_n 0, 1) := by decide +kernel
theorem d_Mo_doMore_53 : decode c0_Mo_doMore 53 = .ok (.iload_n 3, 1) := by decide +kernel
theorem d_Mo_doMore_54 : decode c0_Mo_doMore 54 = .ok (.invokevirtual 72, 3) := by decide +kernel
theorem d_Mo_doMore_57 : decode c0_Mo_doMore 57 = .ok (.ladd, 1) := by decide +kernel
theorem d_Mo_doMore_58 : decode c0_Mo_doMore 58 = .ok (.invokestatic 51, 3) := by decide +kernel
theorem d_Mo_doMore_61 : decode c0_Mo_doMore 61 = .ok (.putfield 75, 3) := by decide +kernel
theorem d_Mo_doMore_64 : decode c0_Mo_doMore 64 = .ok (.aload_n 0, 1) := by decide +kernel
theorem d_Mo_doMore_65 : decode c0_Mo_doMore 65 = .ok (.aload_n 0, 1) := by decide +kernel
theorem d_Mo_doMore_66 : decode c0_Mo_doMore 66 = .ok (.iload_n 3, 1) := by decide +kernel
theorem d_Mo_doMore_67 : decode c0_Mo_doMore 67 = .ok (.invokevirtual 72, 3) := by decide +kernel
theorem d_Mo_doMore_70 : decode c0_Mo_doMore 70 = .ok (.aload_n 0, 1) := by decide +kernel
theorem d_Mo_doMore_71 : decode c0_Mo_doMore 71 = .ok (.iload_n 2, 1) := by decide +kernel
theorem d_Mo_doMore_72 : decode c0_Mo_doMore 72 = .ok (.invokevirtual 68, 3) := by decide +kernel
theorem d_Mo_doMore_75 : decode c0_Mo_doMore 75 = .ok (.ladd, 1) := by decide +kernel
theorem d_Mo_doMore_76 : decode c0_Mo_doMore 76 = .ok (.aload_n 0, 1) := by decide +kernel
theorem d_Mo_doMore_77 : decode c0_Mo_doMore 77 = .ok (.iload_n 3, 1) := by decide +kernel
theorem d_Mo_doMore_78 : decode c0_Mo_doMore 78 = .ok (.invokevirtual 68, 3) := by decide +kernel
theorem d_Mo_doMore_81 : decode c0_Mo_doMore 81 = .ok (.lsub, 1) := by decide +kernel
theorem d_Mo_doMore_82 : decode c0_Mo_doMore 82 = .ok (.invokestatic 51, 3) := by decide +kernel
theorem d_Mo_doMore_85 : decode c0_Mo_doMore 85 = .ok (.putfield 78, 3) := by decide +kernel
theorem d_Mo_doMore_88 : decode c0_Mo_doMore 88 = .ok (.goto 232, 3) := by decide +kernel
theorem d_Mo_doMore_91 : decode c0_Mo_doMore 91 = .ok (.aload_n 0, 1) := by decide +kernel
theorem d_Mo_doMore_92 : decode c0_Mo_doMore 92 = .ok (.aload_n 0, 1) := by decide +kernel
theorem d_Mo_doMore_93 : decode c0_Mo_doMore 93 = .ok (.iload_n 2, 1) := by decide +kernel
theorem d_Mo_doMore_94 : decode c0_Mo_doMore 94 = .ok (.invokevirtual 68, 3) := by decide +kernel
theorem d_Mo_doMore_97 : decode c0_Mo_doMore 97 = .ok (.aload_n 0, 1) := by decide +kernel
theorem d_Mo_doMore_98 : decode c0_Mo_doMore 98 = .ok (.iload 4, 2) := by decide +kernel
theorem d_Mo_doMore_100 : decode c0_Mo_doMore 100 = .ok (.invokevirtual 68, 3) := by decide +kernel
theorem d_Mo_doMore_103 : decode c0_Mo_doMore 103 = .ok (.ladd, 1) := by decide +kernel
theorem d_Mo_doMore_104 : decode c0_Mo_doMore 104 = .ok (.aload_n 0, 1) := by decide +kernel
theorem d_Mo_doMore_105 : decode c0_Mo_doMore 105 = .ok (.iload_n 3, 1) := by decide +kernel
theorem d_Mo_doMore_106 : decode c0_Mo_doMore 106 = .ok (.invokevirtual 68, 3) := by decide +kernel
theorem d_Mo_doMore_109 : decode c0_Mo_doMore 109 = .ok (.lsub, 1) := by decide +kernel
theorem d_Mo_doMore_110 : decode c0_Mo_doMore 110 = .ok (.invokestatic 51, 3) := by decide +kernel
theorem d_Mo_doMore_113 : decode c0_Mo_doMore 113 = .ok (.putfield 75, 3) := by decide +kernel
theorem d_Mo_doMore_116 : decode c0_Mo_doMore 116 = .ok (.aload_n 0, 1) := by decide +kernel
theorem d_Mo_doMore_117 : decode c0_Mo_doMore 117 = .ok (.aload_n 0, 1) := by decide +kernel
theorem d_Mo_doMore_118 : decode c0_Mo_doMore 118 = .ok (.iload_n 2, 1) := by decide +kernel
theorem d_Mo_doMore_119 : decode c0_Mo_doMore 119 = .ok (.invokevirtual 72, 3) := by decide +kernel
theorem d_Mo_doMore_122 : decode c0_Mo_doMore 122 = .ok (.aload_n 0, 1) := by decide +kernel
theorem d_Mo_doMore_123 : decode c0_Mo_doMore 123 = .ok (.iload 4, 2) := by decide +kernel
theorem d_Mo_doMore_125 : decode c0_Mo_doMore 125 = .ok (.invokevirtual 72, 3) := by decide +kernel
theorem d_Mo_doMore_128 : decode c0_Mo_doMore 128 = .ok (.ladd, 1) := by decide +kernel
theorem d_Mo_doMore_129 : decode c0_Mo_doMore 129 = .ok (.aload_n 0, 1) := by decide +kernel
theorem d_Mo_doMore_130 : decode c0_Mo_doMore 130 = .ok (.iload_n 3, 1) := by decide +kernel
theorem d_Mo_doMore_131 : decode c0_Mo_doMore 131 = .ok (.invokevirtual 72, 3) := by decide +kernel
theorem d_Mo_doMore_134 : decode c0_Mo_doMore 134 = .ok (.lsub, 1) := by decide +kernel
theorem d_Mo_doMore_135 : decode c0_Mo_doMore 135 = .ok (.invokestatic 51, 3) := by decide +kernel
theorem d_Mo_doMore_138 : decode c0_Mo_doMore 138 = .ok (.putfield 78, 3) := by decide +kernel
theorem d_Mo_doMore_141 : decode c0_Mo_doMore 141 = .ok (.goto 179, 3) := by decide +kernel
theorem d_Mo_doMore_144 : decode c0_Mo_doMore 144 = .ok (.aload_n 0, 1) := by decide +kernel
theorem d_Mo_doMore_145 : decode c0_Mo_doMore 145 = .ok (.iload_n 2, 1) := by decide +kernel
theorem d_Mo_doMore_146 : decode c0_Mo_doMore 146 = .ok (.iload_n 3, 1) := by decide +kernel
theorem d_Mo_doMore_147 : decode c0_Mo_doMore 147 = .ok (.aload_n 0, 1) := by decide +kernel
theorem d_Mo_doMore_148 : decode c0_Mo_doMore 148 = .ok (.invokevirtual 101, 3) := by decide +kernel
theorem d_Mo_doMore_151 : decode c0_Mo_doMore 151 = .ok (.invokevirtual 92, 3) := by decide +kernel
theorem d_Mo_doMore_154 : decode c0_Mo_doMore 154 = .ok (.goto 166, 3) := by decide +kernel
theorem d_Mo_doMore_157 : decode c0_Mo_doMore 157 = .ok (.aload_n 0, 1) := by decide +kernel
theorem d_Mo_doMore_158 : decode c0_Mo_doMore 158 = .ok (.iload_n 2, 1) := by decide +kernel
theorem d_Mo_doMore_159 : decode c0_Mo_doMore 159 = .ok (.iload_n 3, 1) := by decide +kernel
theorem d_Mo_doMore_160 : decode c0_Mo_doMore 160 = .ok (.aload_n 0, 1) := by decide +kernel
theorem d_Mo_doMore_161 : decode c0_Mo_doMore 161 = .ok (.invokevirtual 101, 3) := by decide +kernel
theorem d_Mo_doMore_164 : decode c0_Mo_doMore 164 = .ok (.invokevirtual 121, 3) := by decide +kernel
theorem d_Mo_doMore_167 : decode c0_Mo_doMore 167 = .ok (.goto 153, 3) := by decide +kernel
theorem d_Mo_doMore_170 : decode c0_Mo_doMore 170 = .ok (.aload_n 0, 1) := by decide +kernel
theorem d_Mo_doMore_171 : decode c0_Mo_doMore 171 = .ok (.iload_n 2, 1) := by decide +kernel
theorem d_Mo_doMore_172 : decode c0_Mo_doMore 172 = .ok (.iload 4, 2) := by decide +kernel
theorem d_Mo_doMore_174 : decode c0_Mo_doMore 174 = .ok (.iload 5, 2) := by decide +kernel
theorem d_Mo_doMore_176 : decode c0_Mo_doMore 176 = .ok (.invokevirtual 113, 3) := by decide +kernel
theorem d_Mo_doMore_179 : decode c0_Mo_doMore 179 = .ok (.aload_n 0, 1) := by decide +kernel
theorem d_Mo_doMore_180 : decode c0_Mo_doMore 180 = .ok (.getfield 85, 3) := by decide +kernel
theorem d_Mo_doMore_183 : decode c0_Mo_doMore 183 = .ok (.ifCond .ne 17, 3) := by decide +kernel
theorem d_Mo_doMore_186 : decode c0_Mo_doMore 186 = .ok (.aload_n 0, 1) := by decide +kernel
theorem d_Mo_doMore_187 : decode c0_Mo_doMore 187 = .ok (.aload_n 0, 1) := by decide +kernel
theorem d_Mo_doMore_188 : decode c0_Mo_doMore 188 = .ok (.getfield 75, 3) := by decide +kernel
theorem d_Mo_doMore_191 : decode c0_Mo_doMore 191 = .ok (.aload_n 0, 1) := by decide +kernel
theorem d_Mo_doMore_192 : decode c0_Mo_doMore 192 = .ok (.getfield 78, 3) := by decide +kernel
theorem d_Mo_doMore_195 : decode c0_Mo_doMore 195 = .ok (.iload_n 2, 1) := by decide +kernel
theorem d_Mo_doMore_196 : decode c0_Mo_doMore 196 = .ok (.iload_n 3, 1) := by decide +kernel
theorem d_Mo_doMore_197 : decode c0_Mo_doMore 197 = .ok (.invokevirtual 105, 3) := by decide +kernel
theorem d_Mo_doMore_200 : decode c0_Mo_doMore 200 = .ok (.aload_n 0, 1) := by decide +kernel
theorem d_Mo_doMore_201 : decode c0_Mo_doMore 201 = .ok (.ldc2_w 96, 3) := by decide +kernel
theorem d_Mo_doMore_204 : decode c0_Mo_doMore 204 = .ok (.aload_n 0, 1) := by decide +kernel
theorem d_Mo_doMore_205 : decode c0_Mo_doMore 205 = .ok (.getfield 75, 3) := by decide +kernel
theorem d_Mo_doMore_208 : decode c0_Mo_doMore 208 = .ok (.lmul, 1) := by decide +kernel
theorem d_Mo_doMore_209 : decode c0_Mo_doMore 209 = .ok (.aload_n 0, 1) := by decide +kernel
theorem d_Mo_doMore_210 : decode c0_Mo_doMore 210 = .ok (.iload_n 2, 1) := by decide +kernel
theorem d_Mo_doMore_211 : decode c0_Mo_doMore 211 = .ok (.invokevirtual 68, 3) := by decide +kernel
theorem d_Mo_doMore_214 : decode c0_Mo_doMore 214 = .ok (.lsub, 1) := by decide +kernel
theorem d_Mo_doMore_215 : decode c0_Mo_doMore 215 = .ok (.invokestatic 51, 3) := by decide +kernel
theorem d_Mo_doMore_218 : decode c0_Mo_doMore 218 = .ok (.putfield 75, 3) := by decide +kernel
theorem d_Mo_doMore_221 : decode c0_Mo_doMore 221 = .ok (.aload_n 0, 1) := by decide +kernel
theorem d_Mo_doMore_222 : decode c0_Mo_doMore 222 = .ok (.ldc2_w 96, 3) := by decide +kernel
theorem d_Mo_doMore_225 : decode c0_Mo_doMore 225 = .ok (.aload_n 0, 1) := by decide +kernel
theorem d_Mo_doMore_226 : decode c0_Mo_doMore 226 = .ok (.getfield 78, 3) := by decide +kernel
theorem d_Mo_doMore_229 : decode c0_Mo_doMore 229 = .ok (.lmul, 1) := by decide +kernel
theorem d_Mo_doMore_230 : decode c0_Mo_doMore 230 = .ok (.aload_n 0, 1) := by decide +kernel
theorem d_Mo_doMore_231 : decode c0_Mo_doMore 231 = .ok (.iload_n 2, 1) := by decide +kernel
theorem d_Mo_doMore_232 : decode c0_Mo_doMore 232 = .ok (.invokevirtual 72, 3) := by decide +kernel
theorem d_Mo_doMore_235 : decode c0_Mo_doMore 235 = .ok (.lsub, 1) := by decide +kernel
theorem d_Mo_doMore_236 : decode c0_Mo_doMore 236 = .ok (.invokestatic 51, 3) := by decide +kernel
theorem d_Mo_doMore_239 : decode c0_Mo_doMore 239 = .ok (.putfield 78, 3) := by decide +kernel
theorem d_Mo_doMore_242 : decode c0_Mo_doMore 242 = .ok (.goto 78, 3) := by decide +kernel
theorem d_Mo_doMore_245 : decode c0_Mo_doMore 245 = .ok (.aload_n 0, 1) := by decide +kernel
theorem d_Mo_doMore_246 : decode c0_Mo_doMore 246 = .ok (.aload_n 0, 1) := by decide +kernel
theorem d_Mo_doMore_247 : decode c0_Mo_doMore 247 = .ok (.iload_n 2, 1) := by decide +kernel
theorem d_Mo_doMore_248 : decode c0_Mo_doMore 248 = .ok (.invokevirtual 68, 3) := by decide +kernel
theorem d_Mo_doMore_251 : decode c0_Mo_doMore 251 = .ok (.aload_n 0, 1) := by decide +kernel
theorem d_Mo_doMore_252 : decode c0_Mo_doMore 252 = .ok (.iload_n 3, 1) := by decide +kernel
theorem d_Mo_doMore_253 : decode c0_Mo_doMore 253 = .ok (.invokevirtual 68, 3) := by decide +kernel
theorem d_Mo_doMore_256 : decode c0_Mo_doMore 256 = .ok (.ladd, 1) := by decide +kernel
theorem d_Mo_doMore_257 : decode c0_Mo_doMore 257 = .ok (.aload_n 0, 1) := by decide +kernel
theorem d_Mo_doMore_258 : decode c0_Mo_doMore 258 = .ok (.iload 4, 2) := by decide +kernel
theorem d_Mo_doMore_260 : decode c0_Mo_doMore 260 = .ok (.invokevirtual 68, 3) := by decide +kernel
theorem d_Mo_doMore_263 : decode c0_Mo_doMore 263 = .ok (.ladd, 1) := by decide +kernel
theorem d_Mo_doMore_264 : decode c0_Mo_doMore 264 = .ok (.ldc2_w 124, 3) := by decide +kernel
theorem d_Mo_doMore_267 : decode c0_Mo_doMore 267 = .ok (.invokestatic 89, 3) := by decide +kernel
theorem d_Mo_doMore_270 : decode c0_Mo_doMore 270 = .ok (.lmul, 1) := by decide +kernel
theorem d_Mo_doMore_271 : decode c0_Mo_doMore 271 = .ok (.invokestatic 51, 3) := by decide +kernel
theorem d_Mo_doMore_274 : decode c0_Mo_doMore 274 = .ok (.putfield 75, 3) := by decide +kernel
theorem d_Mo_doMore_277 : decode c0_Mo_doMore 277 = .ok (.aload_n 0, 1) := by decide +kernel
theorem d_Mo_doMore_278 : decode c0_Mo_doMore 278 = .ok (.aload_n 0, 1) := by decide +kernel
theorem d_Mo_doMore_279 : decode c0_Mo_doMore 279 = .ok (.iload_n 2, 1) := by decide +kernel
theorem d_Mo_doMore_280 : decode c0_Mo_doMore 280 = .ok (.invokevirtual 72, 3) := by decide +kernel
theorem d_Mo_doMore_283 : decode c0_Mo_doMore 283 = .ok (.aload_n 0, 1) := by decide +kernel
theorem d_Mo_doMore_284 : decode c0_Mo_doMore 284 = .ok (.iload_n 3, 1) := by decide +kernel
theorem d_Mo_doMore_285 : decode c0_Mo_doMore 285 = .ok (.invokevirtual 72, 3) := by decide +kernel
theorem d_Mo_doMore_288 : decode c0_Mo_doMore 288 = .ok (.ladd, 1) := by decide +kernel
theorem d_Mo_doMore_289 : decode c0_Mo_doMore 289 = .ok (.aload_n 0, 1) := by decide +kernel
theorem d_Mo_doMore_290 : decode c0_Mo_doMore 290 = .ok (.iload 4, 2) := by decide +kernel
theorem d_Mo_doMore_292 : decode c0_Mo_doMore 292 = .ok (.invokevirtual 72, 3) := by decide +kernel
theorem d_Mo_doMore_295 : decode c0_Mo_doMore 295 = .ok (.ladd, 1) := by decide +kernel
theorem d_Mo_doMore_296 : decode c0_Mo_doMore 296 = .ok (.ldc2_w 124, 3) := by decide +kernel
theorem d_Mo_doMore_299 : decode c0_Mo_doMore 299 = .ok (.invokestatic 89, 3) := by decide +kernel
theorem d_Mo_doMore_302 : decode c0_Mo_doMore 302 = .ok (.lmul, 1) := by decide +kernel
theorem d_Mo_doMore_303 : decode c0_Mo_doMore 303 = .ok (.invokestatic 51, 3) := by decide +kernel
theorem d_Mo_doMore_306 : decode c0_Mo_doMore 306 = .ok (.putfield 78, 3) := by decide +kernel
theorem d_Mo_doMore_309 : decode c0_Mo_doMore 309 = .ok (.goto 11, 3) := by decide +kernel
theorem d_Mo_doMore_312 : decode c0_Mo_doMore 312 = .ok (.aload_n 0, 1) := by decide +kernel
theorem d_Mo_doMore_313 : decode c0_Mo_doMore 313 = .ok (.iload_n 2, 1) := by decide +kernel
theorem d_Mo_doMore_314 : decode c0_Mo_doMore 314 = .ok (.iload_n 3, 1) := by decide +kernel
theorem d_Mo_doMore_315 : decode c0_Mo_doMore 315 = .ok (.iload 4, 2) := by decide +kernel
theorem d_Mo_doMore_317 : decode c0_Mo_doMore 317 = .ok (.invokevirtual 126, 3) := by decide +kernel
theorem d_Mo_doMore_320 : decode c0_Mo_doMore 320 = .ok (.return_, 1) := by decide +kernel
def b_Mo_doMore_200 (K : Nat → ClassId) (N : Nat) (o : Nat) (v2 : Int32) (h : fh_H) : Option (fh_H) :=
  (fg_l h (some o) 6 10).bind fun x1 => (fg_o h (some o) 6).bind fun o2 => (f_Mo_px K N o2 v2 h).bind fun r3 => (f_Mo_mod K N ((2 * x1) - r3.1) r3.2).bind fun r4 => (fp_v r4.2 (some o) 6 10 (.long r4.1)).bind fun h5 => (fg_l h5 (some o) 6 11).bind fun x6 => (fg_o h5 (some o) 6).bind fun o7 => (f_Mo_py K N o7 v2 h5).bind fun r8 => (f_Mo_mod K N ((2 * x6) - r8.1) r8.2).bind fun r9 => (fp_v r9.2 (some o) 6 11 (.long r9.1)).bind fun h10 => some h10
def f_Mo_doMore (K : Nat → ClassId) (N : Nat) (o : Nat) (a1 : Int32) (a2 : Int32) (a3 : Int32) (a4 : Int32) (a5 : Int32) (h0 : fh_H) : Option (fh_H) :=
  if a1 = 7 then ((fg_o h0 (some o) 6).bind fun o3 => (f_Mo_px K N o3 a3 h0).bind fun r4 => (fg_o r4.2 (some o) 6).bind fun o5 => (f_Mo_py K N o5 a2 r4.2).bind fun r6 => (fg_o r6.2 (some o) 6).bind fun o7 => (f_Mo_py K N o7 a3 r6.2).bind fun r8 => (f_Mo_mod K N ((r4.1 - r6.1) + r8.1) r8.2).bind fun r9 => (fp_v r9.2 (some o) 6 10 (.long r9.1)).bind fun h10 => (fg_o h10 (some o) 6).bind fun o11 => (f_Mo_py K N o11 a3 h10).bind fun r12 => (fg_o r12.2 (some o) 6).bind fun o13 => (f_Mo_px K N o13 a2 r12.2).bind fun r14 => (fg_o r14.2 (some o) 6).bind fun o15 => (f_Mo_px K N o15 a3 r14.2).bind fun r16 => (f_Mo_mod K N ((r12.1 + r14.1) - r16.1) r16.2).bind fun r17 => (fp_v r17.2 (some o) 6 11 (.long r17.1)).bind fun h18 => some h18) else (if a1 = 8 then ((fg_o h0 (some o) 6).bind fun o19 => (f_Mo_px K N o19 a2 h0).bind fun r20 => (fg_o r20.2 (some o) 6).bind fun o21 => (f_Mo_px K N o21 a4 r20.2).bind fun r22 => (fg_o r22.2 (some o) 6).bind fun o23 => (f_Mo_px K N o23 a3 r22.2).bind fun r24 => (f_Mo_mod K N ((r20.1 + r22.1) - r24.1) r24.2).bind fun r25 => (fp_v r25.2 (some o) 6 10 (.long r25.1)).bind fun h26 => (fg_o h26 (some o) 6).bind fun o27 => (f_Mo_py K N o27 a2 h26).bind fun r28 => (fg_o r28.2 (some o) 6).bind fun o29 => (f_Mo_py K N o29 a4 r28.2).bind fun r30 => (fg_o r30.2 (some o) 6).bind fun o31 => (f_Mo_py K N o31 a3 r30.2).bind fun r32 => (f_Mo_mod K N ((r28.1 + r30.1) - r32.1) r32.2).bind fun r33 => (fp_v r33.2 (some o) 6 11 (.long r33.1)).bind fun h34 => some h34) else (if a1 = 9 then ((fg_o h0 (some o) 6).bind fun o35 => (f_Mo_drawn K N o35 h0).bind fun r36 => (fg_o r36.2 (some o) 6).bind fun o37 => (f_Mo_along K N o37 a2 a3 r36.1 r36.2).bind fun r38 => some r38) else (if a1 = 10 then ((fg_o h0 (some o) 6).bind fun o39 => (f_Mo_drawn K N o39 h0).bind fun r40 => (fg_o r40.2 (some o) 6).bind fun o41 => (f_Mo_round K N o41 a2 a3 r40.1 r40.2).bind fun r42 => some r42) else (if a1 = 11 then ((fg_o h0 (some o) 6).bind fun o43 => (f_Mo_centre K N o43 a2 a4 a5 h0).bind fun r44 => (fg_i r44 (some o) 6 12).bind fun x45 => if x45 = 0 then ((fg_l r44 (some o) 6 10).bind fun x46 => (fg_l r44 (some o) 6 11).bind fun x47 => (fg_o r44 (some o) 6).bind fun o48 => (f_Mo_foot K N o48 x46 x47 a2 a3 r44).bind fun r49 => b_Mo_doMore_200 K N o a2 r49) else (b_Mo_doMore_200 K N o a2 r44)) else (if a1 = 12 then ((fg_o h0 (some o) 6).bind fun o50 => (f_Mo_px K N o50 a2 h0).bind fun r51 => (fg_o r51.2 (some o) 6).bind fun o52 => (f_Mo_px K N o52 a3 r51.2).bind fun r53 => (fg_o r53.2 (some o) 6).bind fun o54 => (f_Mo_px K N o54 a4 r53.2).bind fun r55 => (f_Mo_inverse K N 3 r55.2).bind fun r56 => (f_Mo_mod K N (((r51.1 + r53.1) + r55.1) * r56.1) r56.2).bind fun r57 => (fp_v r57.2 (some o) 6 10 (.long r57.1)).bind fun h58 => (fg_o h58 (some o) 6).bind fun o59 => (f_Mo_py K N o59 a2 h58).bind fun r60 => (fg_o r60.2 (some o) 6).bind fun o61 => (f_Mo_py K N o61 a3 r60.2).bind fun r62 => (fg_o r62.2 (some o) 6).bind fun o63 => (f_Mo_py K N o63 a4 r62.2).bind fun r64 => (f_Mo_inverse K N 3 r64.2).bind fun r65 => (f_Mo_mod K N (((r60.1 + r62.1) + r64.1) * r65.1) r65.2).bind fun r66 => (fp_v r66.2 (some o) 6 11 (.long r66.1)).bind fun h67 => some h67) else ((fg_o h0 (some o) 6).bind fun o1 => (f_Mo_turnOut K N o1 a2 a3 a4 h0).bind fun r2 => some r2))))))
set_option maxHeartbeats 4000000 in
set_option maxRecDepth 100000 in
theorem c_Mo_doMore {l : Launch} {D : va_G} {K : Nat → ClassId} {t : Nat → Nat} {N : Nat} {o : Nat} {a1 : Int32} {a2 : Int32} {a3 : Int32} {a4 : Int32} {a5 : Int32} {h0 : fh_H} {res : fh_H} (hf : f_Mo_doMore K N o a1 a2 a3 a4 a5 h0 = some res) : fC l D K t y_Mo_doMore c0_Mo_doMore 6 none rm_Mo_doMore [.ref o, .int a1, .int a2, .int a3, .int a4, .int a5] h0 (none) res := by
  refine fh_body (by decide) (Nat.le_of_ble_eq_true rfl) ?_
  intro p e s m below meth c A ls S hr hk hnm hE hAe hI hl
  obtain ⟨hx, hb, hml, hown, hts⟩ := id S
  have hl : lv_has ls 6 [(0, va_rf (some o)), (1, .int a1), (2, .int a2), (3, .int a3), (4, .int a4), (5, .int a5)] := hl
  have B200 : ∀ (v2 : Int32) (h : fh_H) (H : Heap) (locs : List Loc) (ls : Array Slot), lv_has ls 6 [(0, va_rf (some o)), (2, .int v2)] → fh_I D classes A s.heap h H locs → b_Mo_doMore_200 K N o v2 h = some res → W p l e rm_Mo_doMore s m [.ref o, .int a1, .int a2, .int a3, .int a4, .int a5].toArray below meth c H locs 0 0 (MQ below (fh_Q D classes h0 s.heap.size (none) res) [.ref o, .int a1, .int a2, .int a3, .int a4, .int a5].toArray s 0 0 A) (F0 m 200 ls []) := by
    intro v2 h H locs ls hl hI hf
    unfold b_Mo_doMore_200 at hf
    refine fh_aload_n S d_Mo_doMore_200 rfl (lv_at hl 0 rfl) ?_
    refine lv_ldc2 hx hb hown (hts _ k_152) d_Mo_doMore_201 ?_
    refine fh_aload_n S d_Mo_doMore_204 rfl (lv_at hl 0 rfl) ?_
    obtain ⟨x1, e_x1, hf⟩ := fh_b hf
    refine fh_getl S hE.1 hI e_x1 (hc := rfl) (hin := in_6) (by decide) (hts _ k_145) d_Mo_doMore_205 ?_
    refine lv_lmul hx hb d_Mo_doMore_208 ?_
    refine fh_aload_n S d_Mo_doMore_209 rfl (lv_at hl 0 rfl) ?_
    refine lv_iload_n hx hb d_Mo_doMore_210 rfl (lv_at hl 1 rfl) ?_
    obtain ⟨o2, e_o2, hf⟩ := fh_b hf
    obtain ⟨r3, e_r3, hf⟩ := fh_b hf
    refine fh_callV (As := [.int v2]) (rest := [.long (2 * x1), va_rf (some o)]) S fT_good hE hI e_o2 rfl (c_Mo_px e_r3) fy_Mo_px fst_Mo_px k_143 ⟨rfl, rfl⟩ ⟨Nat.le_of_ble_eq_true rfl, Nat.le_of_ble_eq_true rfl⟩ ⟨Nat.zero_le _, Nat.zero_le _⟩ rfl hl.1 rfl (Nat.le_of_ble_eq_true rfl) d_Mo_doMore_211 (fun H locs hI => ?_)
    refine lv_lsub hx hb d_Mo_doMore_214 ?_
    obtain ⟨r4, e_r4, hf⟩ := fh_b hf
    refine fh_callS (As := [.long ((2 * x1) - r3.1)]) (rest := [va_rf (some o)]) S fT_good hE hI (c_Mo_mod e_r4) fy_Mo_mod fst_Mo_mod k_135 ⟨rfl, rfl⟩ ⟨Nat.le_of_ble_eq_true rfl, Nat.le_of_ble_eq_true rfl⟩ ⟨Nat.zero_le _, Nat.zero_le _⟩ rfl hl.1 rfl (Nat.le_of_ble_eq_true rfl) d_Mo_doMore_215 (fun H locs hI => ?_)
    obtain ⟨h5, e_h5, hf⟩ := fh_b hf
    refine fh_putv S hE.1 hI e_h5 (hc := rfl) (hin := in_6) tok_6 nok_6 (by decide) (hts _ k_145) rfl rfl rfl d_Mo_doMore_218 (fun H locs hI => ?_)
    refine fh_aload_n S d_Mo_doMore_221 rfl (lv_at hl 0 rfl) ?_
    refine lv_ldc2 hx hb hown (hts _ k_152) d_Mo_doMore_222 ?_
    refine fh_aload_n S d_Mo_doMore_225 rfl (lv_at hl 0 rfl) ?_
    obtain ⟨x6, e_x6, hf⟩ := fh_b hf
    refine fh_getl S hE.1 hI e_x6 (hc := rfl) (hin := in_6) (by decide) (hts _ k_146) d_Mo_doMore_226 ?_
    refine lv_lmul hx hb d_Mo_doMore_229 ?_
    refine fh_aload_n S d_Mo_doMore_230 rfl (lv_at hl 0 rfl) ?_
    refine lv_iload_n hx hb d_Mo_doMore_231 rfl (lv_at hl 1 rfl) ?_
    obtain ⟨o7, e_o7, hf⟩ := fh_b hf
    obtain ⟨r8, e_r8, hf⟩ := fh_b hf
    refine fh_callV (As := [.int v2]) (rest := [.long (2 * x6), va_rf (some o)]) S fT_good hE hI e_o7 rfl (c_Mo_py e_r8) fy_Mo_py fst_Mo_py k_144 ⟨rfl, rfl⟩ ⟨Nat.le_of_ble_eq_true rfl, Nat.le_of_ble_eq_true rfl⟩ ⟨Nat.zero_le _, Nat.zero_le _⟩ rfl hl.1 rfl (Nat.le_of_ble_eq_true rfl) d_Mo_doMore_232 (fun H locs hI => ?_)
    refine lv_lsub hx hb d_Mo_doMore_235 ?_
    obtain ⟨r9, e_r9, hf⟩ := fh_b hf
    refine fh_callS (As := [.long ((2 * x6) - r8.1)]) (rest := [va_rf (some o)]) S fT_good hE hI (c_Mo_mod e_r9) fy_Mo_mod fst_Mo_mod k_135 ⟨rfl, rfl⟩ ⟨Nat.le_of_ble_eq_true rfl, Nat.le_of_ble_eq_true rfl⟩ ⟨Nat.zero_le _, Nat.zero_le _⟩ rfl hl.1 rfl (Nat.le_of_ble_eq_true rfl) d_Mo_doMore_236 (fun H locs hI => ?_)
    obtain ⟨h10, e_h10, hf⟩ := fh_b hf
    refine fh_putv S hE.1 hI e_h10 (hc := rfl) (hin := in_6) tok_6 nok_6 (by decide) (hts _ k_146) rfl rfl rfl d_Mo_doMore_239 (fun H locs hI => ?_)
    refine lv_goto (tgt := 320) hx hb d_Mo_doMore_242 (by decide) ?_
    obtain rfl := Option.some.inj hf
    exact fh_vret S hr hk hAe hI d_Mo_doMore_320
  unfold f_Mo_doMore at hf
  refine lv_iload_n hx hb d_Mo_doMore_0 rfl (lv_at hl 1 rfl) ?_
  by_cases c_1_7 : a1 = 7
  · replace hf := fh_t c_1_7 hf
    refine lv_tableIn (tgt := 40) hx hb d_Mo_doMore_1 (by rw [c_1_7]; decide) (by rw [c_1_7]; decide) (off := 39) (by rw [c_1_7]; decide) (by decide) ?_
    refine fh_aload_n S d_Mo_doMore_40 rfl (lv_at hl 0 rfl) ?_
    refine fh_aload_n S d_Mo_doMore_41 rfl (lv_at hl 0 rfl) ?_
    refine lv_iload_n hx hb d_Mo_doMore_42 rfl (lv_at hl 3 rfl) ?_
    obtain ⟨o3, e_o3, hf⟩ := fh_b hf
    obtain ⟨r4, e_r4, hf⟩ := fh_b hf
    refine fh_callV (As := [.int a3]) (rest := [va_rf (some o)]) S fT_good hE hI e_o3 rfl (c_Mo_px e_r4) fy_Mo_px fst_Mo_px k_143 ⟨rfl, rfl⟩ ⟨Nat.le_of_ble_eq_true rfl, Nat.le_of_ble_eq_true rfl⟩ ⟨Nat.zero_le _, Nat.zero_le _⟩ rfl hl.1 rfl (Nat.le_of_ble_eq_true rfl) d_Mo_doMore_43 (fun H locs hI => ?_)
    refine fh_aload_n S d_Mo_doMore_46 rfl (lv_at hl 0 rfl) ?_
    refine lv_iload_n hx hb d_Mo_doMore_47 rfl (lv_at hl 2 rfl) ?_
    obtain ⟨o5, e_o5, hf⟩ := fh_b hf
    obtain ⟨r6, e_r6, hf⟩ := fh_b hf
    refine fh_callV (As := [.int a2]) (rest := [.long r4.1, va_rf (some o)]) S fT_good hE hI e_o5 rfl (c_Mo_py e_r6) fy_Mo_py fst_Mo_py k_144 ⟨rfl, rfl⟩ ⟨Nat.le_of_ble_eq_true rfl, Nat.le_of_ble_eq_true rfl⟩ ⟨Nat.zero_le _, Nat.zero_le _⟩ rfl hl.1 rfl (Nat.le_of_ble_eq_true rfl) d_Mo_doMore_48 (fun H locs hI => ?_)
    refine lv_lsub hx hb d_Mo_doMore_51 ?_
    refine fh_aload_n S d_Mo_doMore_52 rfl (lv_at hl 0 rfl) ?_
    refine lv_iload_n hx hb d_Mo_doMore_53 rfl (lv_at hl 3 rfl) ?_
    obtain ⟨o7, e_o7, hf⟩ := fh_b hf
    obtain ⟨r8, e_r8, hf⟩ := fh_b hf
    refine fh_callV (As := [.int a3]) (rest := [.long (r4.1 - r6.1), va_rf (some o)]) S fT_good hE hI e_o7 rfl (c_Mo_py e_r8) fy_Mo_py fst_Mo_py k_144 ⟨rfl, rfl⟩ ⟨Nat.le_of_ble_eq_true rfl, Nat.le_of_ble_eq_true rfl⟩ ⟨Nat.zero_le _, Nat.zero_le _⟩ rfl hl.1 rfl (Nat.le_of_ble_eq_true rfl) d_Mo_doMore_54 (fun H locs hI => ?_)
    refine lv_ladd hx hb d_Mo_doMore_57 ?_
    obtain ⟨r9, e_r9, hf⟩ := fh_b hf
    refine fh_callS (As := [.long ((r4.1 - r6.1) + r8.1)]) (rest := [va_rf (some o)]) S fT_good hE hI (c_Mo_mod e_r9) fy_Mo_mod fst_Mo_mod k_135 ⟨rfl, rfl⟩ ⟨Nat.le_of_ble_eq_true rfl, Nat.le_of_ble_eq_true rfl⟩ ⟨Nat.zero_le _, Nat.zero_le _⟩ rfl hl.1 rfl (Nat.le_of_ble_eq_true rfl) d_Mo_doMore_58 (fun H locs hI => ?_)
    obtain ⟨h10, e_h10, hf⟩ := fh_b hf
    refine fh_putv S hE.1 hI e_h10 (hc := rfl) (hin := in_6) tok_6 nok_6 (by decide) (hts _ k_145) rfl rfl rfl d_Mo_doMore_61 (fun H locs hI => ?_)
    refine fh_aload_n S d_Mo_doMore_64 rfl (lv_at hl 0 rfl) ?_
    refine fh_aload_n S d_Mo_doMore_65 rfl (lv_at hl 0 rfl) ?_
    refine lv_iload_n hx hb d_Mo_doMore_66 rfl (lv_at hl 3 rfl) ?_
    obtain ⟨o11, e_o11, hf⟩ := fh_b hf
    obtain ⟨r12, e_r12, hf⟩ := fh_b hf
    refine fh_callV (As := [.int a3]) (rest := [va_rf (some o)]) S fT_good hE hI e_o11 rfl (c_Mo_py e_r12) fy_Mo_py fst_Mo_py k_144 ⟨rfl, rfl⟩ ⟨Nat.le_of_ble_eq_true rfl, Nat.le_of_ble_eq_true rfl⟩ ⟨Nat.zero_le _, Nat.zero_le _⟩ rfl hl.1 rfl (Nat.le_of_ble_eq_true rfl) d_Mo_doMore_67 (fun H locs hI => ?_)
    refine fh_aload_n S d_Mo_doMore_70 rfl (lv_at hl 0 rfl) ?_
    refine lv_iload_n hx hb d_Mo_doMore_71 rfl (lv_at hl 2 rfl) ?_
    obtain ⟨o13, e_o13, hf⟩ := fh_b hf
    obtain ⟨r14, e_r14, hf⟩ := fh_b hf
    refine fh_callV (As := [.int a2]) (rest := [.long r12.1, va_rf (some o)]) S fT_good hE hI e_o13 rfl (c_Mo_px e_r14) fy_Mo_px fst_Mo_px k_143 ⟨rfl, rfl⟩ ⟨Nat.le_of_ble_eq_true rfl, Nat.le_of_ble_eq_true rfl⟩ ⟨Nat.zero_le _, Nat.zero_le _⟩ rfl hl.1 rfl (Nat.le_of_ble_eq_true rfl) d_Mo_doMore_72 (fun H locs hI => ?_)
    refine lv_ladd hx hb d_Mo_doMore_75 ?_
    refine fh_aload_n S d_Mo_doMore_76 rfl (lv_at hl 0 rfl) ?_
    refine lv_iload_n hx hb d_Mo_doMore_77 rfl (lv_at hl 3 rfl) ?_
    obtain ⟨o15, e_o15, hf⟩ := fh_b hf
    obtain ⟨r16, e_r16, hf⟩ := fh_b hf
    refine fh_callV (As := [.int a3]) (rest := [.long (r12.1 + r14.1), va_rf (some o)]) S fT_good hE hI e_o15 rfl (c_Mo_px e_r16) fy_Mo_px fst_Mo_px k_143 ⟨rfl, rfl⟩ ⟨Nat.le_of_ble_eq_true rfl, Nat.le_of_ble_eq_true rfl⟩ ⟨Nat.zero_le _, Nat.zero_le _⟩ rfl hl.1 rfl (Nat.le_of_ble_eq_true rfl) d_Mo_doMore_78 (fun H locs hI => ?_)
    refine lv_lsub hx hb d_Mo_doMore_81 ?_
    obtain ⟨r17, e_r17, hf⟩ := fh_b hf
    refine fh_callS (As := [.long ((r12.1 + r14.1) - r16.1)]) (rest := [va_rf (some o)]) S fT_good hE hI (c_Mo_mod e_r17) fy_Mo_mod fst_Mo_mod k_135 ⟨rfl, rfl⟩ ⟨Nat.le_of_ble_eq_true rfl, Nat.le_of_ble_eq_true rfl⟩ ⟨Nat.zero_le _, Nat.zero_le _⟩ rfl hl.1 rfl (Nat.le_of_ble_eq_true rfl) d_Mo_doMore_82 (fun H locs hI => ?_)
    obtain ⟨h18, e_h18, hf⟩ := fh_b hf
    refine fh_putv S hE.1 hI e_h18 (hc := rfl) (hin := in_6) tok_6 nok_6 (by decide) (hts _ k_146) rfl rfl rfl d_Mo_doMore_85 (fun H locs hI => ?_)
    refine lv_goto (tgt := 320) hx hb d_Mo_doMore_88 (by decide) ?_
    obtain rfl := Option.some.inj hf
    exact fh_vret S hr hk hAe hI d_Mo_doMore_320
  replace hf := fh_f c_1_7 hf
  by_cases c_1_8 : a1 = 8
  · replace hf := fh_t c_1_8 hf
    refine lv_tableIn (tgt := 91) hx hb d_Mo_doMore_1 (by rw [c_1_8]; decide) (by rw [c_1_8]; decide) (off := 90) (by rw [c_1_8]; decide) (by decide) ?_
    refine fh_aload_n S d_Mo_doMore_91 rfl (lv_at hl 0 rfl) ?_
    refine fh_aload_n S d_Mo_doMore_92 rfl (lv_at hl 0 rfl) ?_
    refine lv_iload_n hx hb d_Mo_doMore_93 rfl (lv_at hl 2 rfl) ?_
    obtain ⟨o19, e_o19, hf⟩ := fh_b hf
    obtain ⟨r20, e_r20, hf⟩ := fh_b hf
    refine fh_callV (As := [.int a2]) (rest := [va_rf (some o)]) S fT_good hE hI e_o19 rfl (c_Mo_px e_r20) fy_Mo_px fst_Mo_px k_143 ⟨rfl, rfl⟩ ⟨Nat.le_of_ble_eq_true rfl, Nat.le_of_ble_eq_true rfl⟩ ⟨Nat.zero_le _, Nat.zero_le _⟩ rfl hl.1 rfl (Nat.le_of_ble_eq_true rfl) d_Mo_doMore_94 (fun H locs hI => ?_)
    refine fh_aload_n S d_Mo_doMore_97 rfl (lv_at hl 0 rfl) ?_
    refine lv_iload hx hb d_Mo_doMore_98 (lv_at hl 4 rfl) ?_
    obtain ⟨o21, e_o21, hf⟩ := fh_b hf
    obtain ⟨r22, e_r22, hf⟩ := fh_b hf
    refine fh_callV (As := [.int a4]) (rest := [.long r20.1, va_rf (some o)]) S fT_good hE hI e_o21 rfl (c_Mo_px e_r22) fy_Mo_px fst_Mo_px k_143 ⟨rfl, rfl⟩ ⟨Nat.le_of_ble_eq_true rfl, Nat.le_of_ble_eq_true rfl⟩ ⟨Nat.zero_le _, Nat.zero_le _⟩ rfl hl.1 rfl (Nat.le_of_ble_eq_true rfl) d_Mo_doMore_100 (fun H locs hI => ?_)
    refine lv_ladd hx hb d_Mo_doMore_103 ?_
    refine fh_aload_n S d_Mo_doMore_104 rfl (lv_at hl 0 rfl) ?_
    refine lv_iload_n hx hb d_Mo_doMore_105 rfl (lv_at hl 3 rfl) ?_
    obtain ⟨o23, e_o23, hf⟩ := fh_b hf
    obtain ⟨r24, e_r24, hf⟩ := fh_b hf
    refine fh_callV (As := [.int a3]) (rest := [.long (r20.1 + r22.1), va_rf (some o)]) S fT_good hE hI e_o23 rfl (c_Mo_px e_r24) fy_Mo_px fst_Mo_px k_143 ⟨rfl, rfl⟩ ⟨Nat.le_of_ble_eq_true rfl, Nat.le_of_ble_eq_true rfl⟩ ⟨Nat.zero_le _, Nat.zero_le _⟩ rfl hl.1 rfl (Nat.le_of_ble_eq_true rfl) d_Mo_doMore_106 (fun H locs hI => ?_)
    refine lv_lsub hx hb d_Mo_doMore_109 ?_
    obtain ⟨r25, e_r25, hf⟩ := fh_b hf
    refine fh_callS (As := [.long ((r20.1 + r22.1) - r24.1)]) (rest := [va_rf (some o)]) S fT_good hE hI (c_Mo_mod e_r25) fy_Mo_mod fst_Mo_mod k_135 ⟨rfl, rfl⟩ ⟨Nat.le_of_ble_eq_true rfl, Nat.le_of_ble_eq_true rfl⟩ ⟨Nat.zero_le _, Nat.zero_le _⟩ rfl hl.1 rfl (Nat.le_of_ble_eq_true rfl) d_Mo_doMore_110 (fun H locs hI => ?_)
    obtain ⟨h26, e_h26, hf⟩ := fh_b hf
    refine fh_putv S hE.1 hI e_h26 (hc := rfl) (hin := in_6) tok_6 nok_6 (by decide) (hts _ k_145) rfl rfl rfl d_Mo_doMore_113 (fun H locs hI => ?_)
    refine fh_aload_n S d_Mo_doMore_116 rfl (lv_at hl 0 rfl) ?_
    refine fh_aload_n S d_Mo_doMore_117 rfl (lv_at hl 0 rfl) ?_
    refine lv_iload_n hx hb d_Mo_doMore_118 rfl (lv_at hl 2 rfl) ?_
    obtain ⟨o27, e_o27, hf⟩ := fh_b hf
    obtain ⟨r28, e_r28, hf⟩ := fh_b hf
    refine fh_callV (As := [.int a2]) (rest := [va_rf (some o)]) S fT_good hE hI e_o27 rfl (c_Mo_py e_r28) fy_Mo_py fst_Mo_py k_144 ⟨rfl, rfl⟩ ⟨Nat.le_of_ble_eq_true rfl, Nat.le_of_ble_eq_true rfl⟩ ⟨Nat.zero_le _, Nat.zero_le _⟩ rfl hl.1 rfl (Nat.le_of_ble_eq_true rfl) d_Mo_doMore_119 (fun H locs hI => ?_)
    refine fh_aload_n S d_Mo_doMore_122 rfl (lv_at hl 0 rfl) ?_
    refine lv_iload hx hb d_Mo_doMore_123 (lv_at hl 4 rfl) ?_
    obtain ⟨o29, e_o29, hf⟩ := fh_b hf
    obtain ⟨r30, e_r30, hf⟩ := fh_b hf
    refine fh_callV (As := [.int a4]) (rest := [.long r28.1, va_rf (some o)]) S fT_good hE hI e_o29 rfl (c_Mo_py e_r30) fy_Mo_py fst_Mo_py k_144 ⟨rfl, rfl⟩ ⟨Nat.le_of_ble_eq_true rfl, Nat.le_of_ble_eq_true rfl⟩ ⟨Nat.zero_le _, Nat.zero_le _⟩ rfl hl.1 rfl (Nat.le_of_ble_eq_true rfl) d_Mo_doMore_125 (fun H locs hI => ?_)
    refine lv_ladd hx hb d_Mo_doMore_128 ?_
    refine fh_aload_n S d_Mo_doMore_129 rfl (lv_at hl 0 rfl) ?_
    refine lv_iload_n hx hb d_Mo_doMore_130 rfl (lv_at hl 3 rfl) ?_
    obtain ⟨o31, e_o31, hf⟩ := fh_b hf
    obtain ⟨r32, e_r32, hf⟩ := fh_b hf
    refine fh_callV (As := [.int a3]) (rest := [.long (r28.1 + r30.1), va_rf (some o)]) S fT_good hE hI e_o31 rfl (c_Mo_py e_r32) fy_Mo_py fst_Mo_py k_144 ⟨rfl, rfl⟩ ⟨Nat.le_of_ble_eq_true rfl, Nat.le_of_ble_eq_true rfl⟩ ⟨Nat.zero_le _, Nat.zero_le _⟩ rfl hl.1 rfl (Nat.le_of_ble_eq_true rfl) d_Mo_doMore_131 (fun H locs hI => ?_)
    refine lv_lsub hx hb d_Mo_doMore_134 ?_
    obtain ⟨r33, e_r33, hf⟩ := fh_b hf
    refine fh_callS (As := [.long ((r28.1 + r30.1) - r32.1)]) (rest := [va_rf (some o)]) S fT_good hE hI (c_Mo_mod e_r33) fy_Mo_mod fst_Mo_mod k_135 ⟨rfl, rfl⟩ ⟨Nat.le_of_ble_eq_true rfl, Nat.le_of_ble_eq_true rfl⟩ ⟨Nat.zero_le _, Nat.zero_le _⟩ rfl hl.1 rfl (Nat.le_of_ble_eq_true rfl) d_Mo_doMore_135 (fun H locs hI => ?_)
    obtain ⟨h34, e_h34, hf⟩ := fh_b hf
    refine fh_putv S hE.1 hI e_h34 (hc := rfl) (hin := in_6) tok_6 nok_6 (by decide) (hts _ k_146) rfl rfl rfl d_Mo_doMore_138 (fun H locs hI => ?_)
    refine lv_goto (tgt := 320) hx hb d_Mo_doMore_141 (by decide) ?_
    obtain rfl := Option.some.inj hf
    exact fh_vret S hr hk hAe hI d_Mo_doMore_320
  replace hf := fh_f c_1_8 hf
  by_cases c_1_9 : a1 = 9
  · replace hf := fh_t c_1_9 hf
    refine lv_tableIn (tgt := 144) hx hb d_Mo_doMore_1 (by rw [c_1_9]; decide) (by rw [c_1_9]; decide) (off := 143) (by rw [c_1_9]; decide) (by decide) ?_
    refine fh_aload_n S d_Mo_doMore_144 rfl (lv_at hl 0 rfl) ?_
    refine lv_iload_n hx hb d_Mo_doMore_145 rfl (lv_at hl 2 rfl) ?_
    refine lv_iload_n hx hb d_Mo_doMore_146 rfl (lv_at hl 3 rfl) ?_
    refine fh_aload_n S d_Mo_doMore_147 rfl (lv_at hl 0 rfl) ?_
    obtain ⟨o35, e_o35, hf⟩ := fh_b hf
    obtain ⟨r36, e_r36, hf⟩ := fh_b hf
    refine fh_callV (As := []) (rest := [.int a3, .int a2, va_rf (some o)]) S fT_good hE hI e_o35 rfl (c_Mo_drawn e_r36) fy_Mo_drawn fst_Mo_drawn k_155 ⟨rfl, rfl⟩ ⟨Nat.le_of_ble_eq_true rfl, Nat.le_of_ble_eq_true rfl⟩ ⟨Nat.zero_le _, Nat.zero_le _⟩ rfl hl.1 rfl (Nat.le_of_ble_eq_true rfl) d_Mo_doMore_148 (fun H locs hI => ?_)
    obtain ⟨o37, e_o37, hf⟩ := fh_b hf
    obtain ⟨r38, e_r38, hf⟩ := fh_b hf
    refine fh_callV (As := [.int a2, .int a3, .long r36.1]) (rest := []) S fT_good hE hI e_o37 rfl (c_Mo_along e_r38) fy_Mo_along fst_Mo_along k_149 ⟨rfl, rfl⟩ ⟨Nat.le_of_ble_eq_true rfl, Nat.le_of_ble_eq_true rfl⟩ ⟨Nat.zero_le _, Nat.zero_le _⟩ rfl hl.1 rfl (Nat.le_of_ble_eq_true rfl) d_Mo_doMore_151 (fun H locs hI => ?_)
    refine lv_goto (tgt := 320) hx hb d_Mo_doMore_154 (by decide) ?_
    obtain rfl := Option.some.inj hf
    exact fh_vret S hr hk hAe hI d_Mo_doMore_320
  replace hf := fh_f c_1_9 hf
  by_cases c_1_10 : a1 = 10
  · replace hf := fh_t c_1_10 hf
    refine lv_tableIn (tgt := 157) hx hb d_Mo_doMore_1 (by rw [c_1_10]; decide) (by rw [c_1_10]; decide) (off := 156) (by rw [c_1_10]; decide) (by decide) ?_
    refine fh_aload_n S d_Mo_doMore_157 rfl (lv_at hl 0 rfl) ?_
    refine lv_iload_n hx hb d_Mo_doMore_158 rfl (lv_at hl 2 rfl) ?_
    refine lv_iload_n hx hb d_Mo_doMore_159 rfl (lv_at hl 3 rfl) ?_
    refine fh_aload_n S d_Mo_doMore_160 rfl (lv_at hl 0 rfl) ?_
    obtain ⟨o39, e_o39, hf⟩ := fh_b hf
    obtain ⟨r40, e_r40, hf⟩ := fh_b hf
    refine fh_callV (As := []) (rest := [.int a3, .int a2, va_rf (some o)]) S fT_good hE hI e_o39 rfl (c_Mo_drawn e_r40) fy_Mo_drawn fst_Mo_drawn k_155 ⟨rfl, rfl⟩ ⟨Nat.le_of_ble_eq_true rfl, Nat.le_of_ble_eq_true rfl⟩ ⟨Nat.zero_le _, Nat.zero_le _⟩ rfl hl.1 rfl (Nat.le_of_ble_eq_true rfl) d_Mo_doMore_161 (fun H locs hI => ?_)
    obtain ⟨o41, e_o41, hf⟩ := fh_b hf
    obtain ⟨r42, e_r42, hf⟩ := fh_b hf
    refine fh_callV (As := [.int a2, .int a3, .long r40.1]) (rest := []) S fT_good hE hI e_o41 rfl (c_Mo_round e_r42) fy_Mo_round fst_Mo_round k_156 ⟨rfl, rfl⟩ ⟨Nat.le_of_ble_eq_true rfl, Nat.le_of_ble_eq_true rfl⟩ ⟨Nat.zero_le _, Nat.zero_le _⟩ rfl hl.1 rfl (Nat.le_of_ble_eq_true rfl) d_Mo_doMore_164 (fun H locs hI => ?_)
    refine lv_goto (tgt := 320) hx hb d_Mo_doMore_167 (by decide) ?_
    obtain rfl := Option.some.inj hf
    exact fh_vret S hr hk hAe hI d_Mo_doMore_320
  replace hf := fh_f c_1_10 hf
  by_cases c_1_11 : a1 = 11
  · replace hf := fh_t c_1_11 hf
    refine lv_tableIn (tgt := 170) hx hb d_Mo_doMore_1 (by rw [c_1_11]; decide) (by rw [c_1_11]; decide) (off := 169) (by rw [c_1_11]; decide) (by decide) ?_
    refine fh_aload_n S d_Mo_doMore_170 rfl (lv_at hl 0 rfl) ?_
    refine lv_iload_n hx hb d_Mo_doMore_171 rfl (lv_at hl 2 rfl) ?_
    refine lv_iload hx hb d_Mo_doMore_172 (lv_at hl 4 rfl) ?_
    refine lv_iload hx hb d_Mo_doMore_174 (lv_at hl 5 rfl) ?_
    obtain ⟨o43, e_o43, hf⟩ := fh_b hf
    obtain ⟨r44, e_r44, hf⟩ := fh_b hf
    refine fh_callV (As := [.int a2, .int a4, .int a5]) (rest := []) S fT_good hE hI e_o43 rfl (c_Mo_centre e_r44) fy_Mo_centre fst_Mo_centre k_153 ⟨rfl, rfl⟩ ⟨Nat.le_of_ble_eq_true rfl, Nat.le_of_ble_eq_true rfl⟩ ⟨Nat.zero_le _, Nat.zero_le _⟩ rfl hl.1 rfl (Nat.le_of_ble_eq_true rfl) d_Mo_doMore_176 (fun H locs hI => ?_)
    refine fh_aload_n S d_Mo_doMore_179 rfl (lv_at hl 0 rfl) ?_
    obtain ⟨x45, e_x45, hf⟩ := fh_b hf
    refine fh_geti S hE.1 hI e_x45 (hc := rfl) (hin := in_6) (by decide) (hts _ k_150) d_Mo_doMore_180 ?_
    refine lv_if_ne (tgt := 200) hx hb d_Mo_doMore_183 (by decide) (fun c_183 => ?_) (fun c_183 => ?_)
    · replace hf := fh_f c_183 hf
      exact B200 a2 r44 _ _ _ (lv_sub hl [0, 2] rfl) hI hf
    · replace hf := fh_t c_183 hf
      refine fh_aload_n S d_Mo_doMore_186 rfl (lv_at hl 0 rfl) ?_
      refine fh_aload_n S d_Mo_doMore_187 rfl (lv_at hl 0 rfl) ?_
      obtain ⟨x46, e_x46, hf⟩ := fh_b hf
      refine fh_getl S hE.1 hI e_x46 (hc := rfl) (hin := in_6) (by decide) (hts _ k_145) d_Mo_doMore_188 ?_
      refine fh_aload_n S d_Mo_doMore_191 rfl (lv_at hl 0 rfl) ?_
      obtain ⟨x47, e_x47, hf⟩ := fh_b hf
      refine fh_getl S hE.1 hI e_x47 (hc := rfl) (hin := in_6) (by decide) (hts _ k_146) d_Mo_doMore_192 ?_
      refine lv_iload_n hx hb d_Mo_doMore_195 rfl (lv_at hl 2 rfl) ?_
      refine lv_iload_n hx hb d_Mo_doMore_196 rfl (lv_at hl 3 rfl) ?_
      obtain ⟨o48, e_o48, hf⟩ := fh_b hf
      obtain ⟨r49, e_r49, hf⟩ := fh_b hf
      refine fh_callV (As := [.long x46, .long x47, .int a2, .int a3]) (rest := []) S fT_good hE hI e_o48 rfl (c_Mo_foot e_r49) fy_Mo_foot fst_Mo_foot k_154 ⟨rfl, rfl⟩ ⟨Nat.le_of_ble_eq_true rfl, Nat.le_of_ble_eq_true rfl⟩ ⟨Nat.zero_le _, Nat.zero_le _⟩ rfl hl.1 rfl (Nat.le_of_ble_eq_true rfl) d_Mo_doMore_197 (fun H locs hI => ?_)
      exact B200 a2 r49 _ _ _ (lv_sub hl [0, 2] rfl) hI hf
  replace hf := fh_f c_1_11 hf
  by_cases c_1_12 : a1 = 12
  · replace hf := fh_t c_1_12 hf
    refine lv_tableIn (tgt := 245) hx hb d_Mo_doMore_1 (by rw [c_1_12]; decide) (by rw [c_1_12]; decide) (off := 244) (by rw [c_1_12]; decide) (by decide) ?_
    refine fh_aload_n S d_Mo_doMore_245 rfl (lv_at hl 0 rfl) ?_
    refine fh_aload_n S d_Mo_doMore_246 rfl (lv_at hl 0 rfl) ?_
    refine lv_iload_n hx hb d_Mo_doMore_247 rfl (lv_at hl 2 rfl) ?_
    obtain ⟨o50, e_o50, hf⟩ := fh_b hf
    obtain ⟨r51, e_r51, hf⟩ := fh_b hf
    refine fh_callV (As := [.int a2]) (rest := [va_rf (some o)]) S fT_good hE hI e_o50 rfl (c_Mo_px e_r51) fy_Mo_px fst_Mo_px k_143 ⟨rfl, rfl⟩ ⟨Nat.le_of_ble_eq_true rfl, Nat.le_of_ble_eq_true rfl⟩ ⟨Nat.zero_le _, Nat.zero_le _⟩ rfl hl.1 rfl (Nat.le_of_ble_eq_true rfl) d_Mo_doMore_248 (fun H locs hI => ?_)
    refine fh_aload_n S d_Mo_doMore_251 rfl (lv_at hl 0 rfl) ?_
    refine lv_iload_n hx hb d_Mo_doMore_252 rfl (lv_at hl 3 rfl) ?_
    obtain ⟨o52, e_o52, hf⟩ := fh_b hf
    obtain ⟨r53, e_r53, hf⟩ := fh_b hf
    refine fh_callV (As := [.int a3]) (rest := [.long r51.1, va_rf (some o)]) S fT_good hE hI e_o52 rfl (c_Mo_px e_r53) fy_Mo_px fst_Mo_px k_143 ⟨rfl, rfl⟩ ⟨Nat.le_of_ble_eq_true rfl, Nat.le_of_ble_eq_true rfl⟩ ⟨Nat.zero_le _, Nat.zero_le _⟩ rfl hl.1 rfl (Nat.le_of_ble_eq_true rfl) d_Mo_doMore_253 (fun H locs hI => ?_)
    refine lv_ladd hx hb d_Mo_doMore_256 ?_
    refine fh_aload_n S d_Mo_doMore_257 rfl (lv_at hl 0 rfl) ?_
    refine lv_iload hx hb d_Mo_doMore_258 (lv_at hl 4 rfl) ?_
    obtain ⟨o54, e_o54, hf⟩ := fh_b hf
    obtain ⟨r55, e_r55, hf⟩ := fh_b hf
    refine fh_callV (As := [.int a4]) (rest := [.long (r51.1 + r53.1), va_rf (some o)]) S fT_good hE hI e_o54 rfl (c_Mo_px e_r55) fy_Mo_px fst_Mo_px k_143 ⟨rfl, rfl⟩ ⟨Nat.le_of_ble_eq_true rfl, Nat.le_of_ble_eq_true rfl⟩ ⟨Nat.zero_le _, Nat.zero_le _⟩ rfl hl.1 rfl (Nat.le_of_ble_eq_true rfl) d_Mo_doMore_260 (fun H locs hI => ?_)
    refine lv_ladd hx hb d_Mo_doMore_263 ?_
    refine lv_ldc2 hx hb hown (hts _ k_158) d_Mo_doMore_264 ?_
    obtain ⟨r56, e_r56, hf⟩ := fh_b hf
    refine fh_callS (As := [.long 3]) (rest := [.long ((r51.1 + r53.1) + r55.1), va_rf (some o)]) S fT_good hE hI (c_Mo_inverse e_r56) fy_Mo_inverse fst_Mo_inverse k_148 ⟨rfl, rfl⟩ ⟨Nat.le_of_ble_eq_true rfl, Nat.le_of_ble_eq_true rfl⟩ ⟨Nat.zero_le _, Nat.zero_le _⟩ rfl hl.1 rfl (Nat.le_of_ble_eq_true rfl) d_Mo_doMore_267 (fun H locs hI => ?_)
    refine lv_lmul hx hb d_Mo_doMore_270 ?_
    obtain ⟨r57, e_r57, hf⟩ := fh_b hf
    refine fh_callS (As := [.long (((r51.1 + r53.1) + r55.1) * r56.1)]) (rest := [va_rf (some o)]) S fT_good hE hI (c_Mo_mod e_r57) fy_Mo_mod fst_Mo_mod k_135 ⟨rfl, rfl⟩ ⟨Nat.le_of_ble_eq_true rfl, Nat.le_of_ble_eq_true rfl⟩ ⟨Nat.zero_le _, Nat.zero_le _⟩ rfl hl.1 rfl (Nat.le_of_ble_eq_true rfl) d_Mo_doMore_271 (fun H locs hI => ?_)
    obtain ⟨h58, e_h58, hf⟩ := fh_b hf
    refine fh_putv S hE.1 hI e_h58 (hc := rfl) (hin := in_6) tok_6 nok_6 (by decide) (hts _ k_145) rfl rfl rfl d_Mo_doMore_274 (fun H locs hI => ?_)
    refine fh_aload_n S d_Mo_doMore_277 rfl (lv_at hl 0 rfl) ?_
    refine fh_aload_n S d_Mo_doMore_278 rfl (lv_at hl 0 rfl) ?_
    refine lv_iload_n hx hb d_Mo_doMore_279 rfl (lv_at hl 2 rfl) ?_
    obtain ⟨o59, e_o59, hf⟩ := fh_b hf
    obtain ⟨r60, e_r60, hf⟩ := fh_b hf
    refine fh_callV (As := [.int a2]) (rest := [va_rf (some o)]) S fT_good hE hI e_o59 rfl (c_Mo_py e_r60) fy_Mo_py fst_Mo_py k_144 ⟨rfl, rfl⟩ ⟨Nat.le_of_ble_eq_true rfl, Nat.le_of_ble_eq_true rfl⟩ ⟨Nat.zero_le _, Nat.zero_le _⟩ rfl hl.1 rfl (Nat.le_of_ble_eq_true rfl) d_Mo_doMore_280 (fun H locs hI => ?_)
    refine fh_aload_n S d_Mo_doMore_283 rfl (lv_at hl 0 rfl) ?_
    refine lv_iload_n hx hb d_Mo_doMore_284 rfl (lv_at hl 3 rfl) ?_
    obtain ⟨o61, e_o61, hf⟩ := fh_b hf
    obtain ⟨r62, e_r62, hf⟩ := fh_b hf
    refine fh_callV (As := [.int a3]) (rest := [.long r60.1, va_rf (some o)]) S fT_good hE hI e_o61 rfl (c_Mo_py e_r62) fy_Mo_py fst_Mo_py k_144 ⟨rfl, rfl⟩ ⟨Nat.le_of_ble_eq_true rfl, Nat.le_of_ble_eq_true rfl⟩ ⟨Nat.zero_le _, Nat.zero_le _⟩ rfl hl.1 rfl (Nat.le_of_ble_eq_true rfl) d_Mo_doMore_285 (fun H locs hI => ?_)
    refine lv_ladd hx hb d_Mo_doMore_288 ?_
    refine fh_aload_n S d_Mo_doMore_289 rfl (lv_at hl 0 rfl) ?_
    refine lv_iload hx hb d_Mo_doMore_290 (lv_at hl 4 rfl) ?_
    obtain ⟨o63, e_o63, hf⟩ := fh_b hf
    obtain ⟨r64, e_r64, hf⟩ := fh_b hf
    refine fh_callV (As := [.int a4]) (rest := [.long (r60.1 + r62.1), va_rf (some o)]) S fT_good hE hI e_o63 rfl (c_Mo_py e_r64) fy_Mo_py fst_Mo_py k_144 ⟨rfl, rfl⟩ ⟨Nat.le_of_ble_eq_true rfl, Nat.le_of_ble_eq_true rfl⟩ ⟨Nat.zero_le _, Nat.zero_le _⟩ rfl hl.1 rfl (Nat.le_of_ble_eq_true rfl) d_Mo_doMore_292 (fun H locs hI => ?_)
    refine lv_ladd hx hb d_Mo_doMore_295 ?_
    refine lv_ldc2 hx hb hown (hts _ k_158) d_Mo_doMore_296 ?_
    obtain ⟨r65, e_r65, hf⟩ := fh_b hf
    refine fh_callS (As := [.long 3]) (rest := [.long ((r60.1 + r62.1) + r64.1), va_rf (some o)]) S fT_good hE hI (c_Mo_inverse e_r65) fy_Mo_inverse fst_Mo_inverse k_148 ⟨rfl, rfl⟩ ⟨Nat.le_of_ble_eq_true rfl, Nat.le_of_ble_eq_true rfl⟩ ⟨Nat.zero_le _, Nat.zero_le _⟩ rfl hl.1 rfl (Nat.le_of_ble_eq_true rfl) d_Mo_doMore_299 (fun H locs hI => ?_)
    refine lv_lmul hx hb d_Mo_doMore_302 ?_
    obtain ⟨r66, e_r66, hf⟩ := fh_b hf
    refine fh_callS (As := [.long (((r60.1 + r62.1) + r64.1) * r65.1)]) (rest := [va_rf (some o)]) S fT_good hE hI (c_Mo_mod e_r66) fy_Mo_mod fst_Mo_mod k_135 ⟨rfl, rfl⟩ ⟨Nat.le_of_ble_eq_true rfl, Nat.le_of_ble_eq_true rfl⟩ ⟨Nat.zero_le _, Nat.zero_le _⟩ rfl hl.1 rfl (Nat.le_of_ble_eq_true rfl) d_Mo_doMore_303 (fun H locs hI => ?_)
    obtain ⟨h67, e_h67, hf⟩ := fh_b hf
    refine fh_putv S hE.1 hI e_h67 (hc := rfl) (hin := in_6) tok_6 nok_6 (by decide) (hts _ k_146) rfl rfl rfl d_Mo_doMore_306 (fun H locs hI => ?_)
    refine lv_goto (tgt := 320) hx hb d_Mo_doMore_309 (by decide) ?_
    obtain rfl := Option.some.inj hf
    exact fh_vret S hr hk hAe hI d_Mo_doMore_320
  replace hf := fh_f c_1_12 hf
  have c_1 : a1.toInt < 7 ∨ 12 < a1.toInt := by
    have q7 : a1.toInt ≠ 7 := fun q => c_1_7 (Int32.toInt_inj.mp (q.trans (by decide)))
    have q8 : a1.toInt ≠ 8 := fun q => c_1_8 (Int32.toInt_inj.mp (q.trans (by decide)))
    have q9 : a1.toInt ≠ 9 := fun q => c_1_9 (Int32.toInt_inj.mp (q.trans (by decide)))
    have q10 : a1.toInt ≠ 10 := fun q => c_1_10 (Int32.toInt_inj.mp (q.trans (by decide)))
    have q11 : a1.toInt ≠ 11 := fun q => c_1_11 (Int32.toInt_inj.mp (q.trans (by decide)))
    have q12 : a1.toInt ≠ 12 := fun q => c_1_12 (Int32.toInt_inj.mp (q.trans (by decide)))
    omega
  refine lv_tableOut (tgt := 312) hx hb d_Mo_doMore_1 c_1 (by decide) ?_
  refine fh_aload_n S d_Mo_doMore_312 rfl (lv_at hl 0 rfl) ?_
  refine lv_iload_n hx hb d_Mo_doMore_313 rfl (lv_at hl 2 rfl) ?_
  refine lv_iload_n hx hb d_Mo_doMore_314 rfl (lv_at hl 3 rfl) ?_
  refine lv_iload hx hb d_Mo_doMore_315 (lv_at hl 4 rfl) ?_
  obtain ⟨o1, e_o1, hf⟩ := fh_b hf
  obtain ⟨r2, e_r2, hf⟩ := fh_b hf
  refine fh_callV (As := [.int a2, .int a3, .int a4]) (rest := []) S fT_good hE hI e_o1 rfl (c_Mo_turnOut e_r2) fy_Mo_turnOut fst_Mo_turnOut k_157 ⟨rfl, rfl⟩ ⟨Nat.le_of_ble_eq_true rfl, Nat.le_of_ble_eq_true rfl⟩ ⟨Nat.zero_le _, Nat.zero_le _⟩ rfl hl.1 rfl (Nat.le_of_ble_eq_true rfl) d_Mo_doMore_317 (fun H locs hI => ?_)
  obtain rfl := Option.some.inj hf
  exact fh_vret S hr hk hAe hI d_Mo_doMore_320
theorem d_Mo_doStep_0 : decode c0_Mo_doStep 0 = .ok (.iload_n 1, 1) := by decide +kernel
theorem d_Mo_doStep_1 : decode c0_Mo_doStep 1 = .ok (.tableswitch 262 0 6 #[43, 62, 77, 97, 110, 121, 200], 43) := by decide +kernel
theorem d_Mo_doStep_44 : decode c0_Mo_doStep 44 = .ok (.aload_n 0, 1) := by decide +kernel
theorem d_Mo_doStep_45 : decode c0_Mo_doStep 45 = .ok (.aload_n 0, 1) := by decide +kernel
theorem d_Mo_doStep_46 : decode c0_Mo_doStep 46 = .ok (.invokevirtual 101, 3) := by decide +kernel
theorem d_Mo_doStep_49 : decode c0_Mo_doStep 49 = .ok (.putfield 75, 3) := by decide +kernel
theorem d_Mo_doStep_52 : decode c0_Mo_doStep 52 = .ok (.aload_n 0, 1) := by decide +kernel
theorem d_Mo_doStep_53 : decode c0_Mo_doStep 53 = .ok (.aload_n 0, 1) := by decide +kernel
theorem d_Mo_doStep_54 : decode c0_Mo_doStep 54 = .ok (.invokevirtual 101, 3) := by decide +kernel
theorem d_Mo_doStep_57 : decode c0_Mo_doStep 57 = .ok (.putfield 78, 3) := by decide +kernel
theorem d_Mo_doStep_60 : decode c0_Mo_doStep 60 = .ok (.goto 214, 3) := by decide +kernel
theorem d_Mo_doStep_63 : decode c0_Mo_doStep 63 = .ok (.aload_n 0, 1) := by decide +kernel
theorem d_Mo_doStep_64 : decode c0_Mo_doStep 64 = .ok (.iload_n 2, 1) := by decide +kernel
theorem d_Mo_doStep_65 : decode c0_Mo_doStep 65 = .ok (.iload_n 3, 1) := by decide +kernel
theorem d_Mo_doStep_66 : decode c0_Mo_doStep 66 = .ok (.ldc2_w 96, 3) := by decide +kernel
theorem d_Mo_doStep_69 : decode c0_Mo_doStep 69 = .ok (.invokestatic 89, 3) := by decide +kernel
theorem d_Mo_doStep_72 : decode c0_Mo_doStep 72 = .ok (.invokevirtual 92, 3) := by decide +kernel
theorem d_Mo_doStep_75 : decode c0_Mo_doStep 75 = .ok (.goto 199, 3) := by decide +kernel
theorem d_Mo_doStep_78 : decode c0_Mo_doStep 78 = .ok (.aload_n 0, 1) := by decide +kernel
theorem d_Mo_doStep_79 : decode c0_Mo_doStep 79 = .ok (.aload_n 0, 1) := by decide +kernel
theorem d_Mo_doStep_80 : decode c0_Mo_doStep 80 = .ok (.iload_n 2, 1) := by decide +kernel
theorem d_Mo_doStep_81 : decode c0_Mo_doStep 81 = .ok (.invokevirtual 68, 3) := by decide +kernel
theorem d_Mo_doStep_84 : decode c0_Mo_doStep 84 = .ok (.aload_n 0, 1) := by decide +kernel
theorem d_Mo_doStep_85 : decode c0_Mo_doStep 85 = .ok (.iload_n 2, 1) := by decide +kernel
theorem d_Mo_doStep_86 : decode c0_Mo_doStep 86 = .ok (.invokevirtual 72, 3) := by decide +kernel
theorem d_Mo_doStep_89 : decode c0_Mo_doStep 89 = .ok (.iload_n 3, 1) := by decide +kernel
theorem d_Mo_doStep_90 : decode c0_Mo_doStep 90 = .ok (.iload 4, 2) := by decide +kernel
theorem d_Mo_doStep_92 : decode c0_Mo_doStep 92 = .ok (.invokevirtual 105, 3) := by decide +kernel
theorem d_Mo_doStep_95 : decode c0_Mo_doStep 95 = .ok (.goto 179, 3) := by decide +kernel
theorem d_Mo_doStep_98 : decode c0_Mo_doStep 98 = .ok (.aload_n 0, 1) := by decide +kernel
theorem d_Mo_doStep_99 : decode c0_Mo_doStep 99 = .ok (.iload_n 2, 1) := by decide +kernel
theorem d_Mo_doStep_100 : decode c0_Mo_doStep 100 = .ok (.iload_n 3, 1) := by decide +kernel
theorem d_Mo_doStep_101 : decode c0_Mo_doStep 101 = .ok (.iload 4, 2) := by decide +kernel
theorem d_Mo_doStep_103 : decode c0_Mo_doStep 103 = .ok (.iload 5, 2) := by decide +kernel
theorem d_Mo_doStep_105 : decode c0_Mo_doStep 105 = .ok (.invokevirtual 109, 3) := by decide +kernel
theorem d_Mo_doStep_108 : decode c0_Mo_doStep 108 = .ok (.goto 166, 3) := by decide +kernel
theorem d_Mo_doStep_111 : decode c0_Mo_doStep 111 = .ok (.aload_n 0, 1) := by decide +kernel
theorem d_Mo_doStep_112 : decode c0_Mo_doStep 112 = .ok (.iload_n 2, 1) := by decide +kernel
theorem d_Mo_doStep_113 : decode c0_Mo_doStep 113 = .ok (.iload_n 3, 1) := by decide +kernel
theorem d_Mo_doStep_114 : decode c0_Mo_doStep 114 = .ok (.iload 4, 2) := by decide +kernel
theorem d_Mo_doStep_116 : decode c0_Mo_doStep 116 = .ok (.invokevirtual 113, 3) := by decide +kernel
theorem d_Mo_doStep_119 : decode c0_Mo_doStep 119 = .ok (.goto 155, 3) := by decide +kernel
theorem d_Mo_doStep_122 : decode c0_Mo_doStep 122 = .ok (.aload_n 0, 1) := by decide +kernel
theorem d_Mo_doStep_123 : decode c0_Mo_doStep 123 = .ok (.iload_n 2, 1) := by decide +kernel
theorem d_Mo_doStep_124 : decode c0_Mo_doStep 124 = .ok (.iload_n 3, 1) := by decide +kernel
theorem d_Mo_doStep_125 : decode c0_Mo_doStep 125 = .ok (.iload 4, 2) := by decide +kernel
theorem d_Mo_doStep_127 : decode c0_Mo_doStep 127 = .ok (.invokevirtual 113, 3) := by decide +kernel
theorem d_Mo_doStep_130 : decode c0_Mo_doStep 130 = .ok (.aload_n 0, 1) := by decide +kernel
theorem d_Mo_doStep_131 : decode c0_Mo_doStep 131 = .ok (.aload_n 0, 1) := by decide +kernel
theorem d_Mo_doStep_132 : decode c0_Mo_doStep 132 = .ok (.iload_n 2, 1) := by decide +kernel
theorem d_Mo_doStep_133 : decode c0_Mo_doStep 133 = .ok (.invokevirtual 68, 3) := by decide +kernel
theorem d_Mo_doStep_136 : decode c0_Mo_doStep 136 = .ok (.aload_n 0, 1) := by decide +kernel
theorem d_Mo_doStep_137 : decode c0_Mo_doStep 137 = .ok (.iload_n 3, 1) := by decide +kernel
theorem d_Mo_doStep_138 : decode c0_Mo_doStep 138 = .ok (.invokevirtual 68, 3) := by decide +kernel
theorem d_Mo_doStep_141 : decode c0_Mo_doStep 141 = .ok (.ladd, 1) := by decide +kernel
theorem d_Mo_doStep_142 : decode c0_Mo_doStep 142 = .ok (.aload_n 0, 1) := by decide +kernel
theorem d_Mo_doStep_143 : decode c0_Mo_doStep 143 = .ok (.iload 4, 2) := by decide +kernel
theorem d_Mo_doStep_145 : decode c0_Mo_doStep 145 = .ok (.invokevirtual 68, 3) := by decide +kernel
theorem d_Mo_doStep_148 : decode c0_Mo_doStep 148 = .ok (.ladd, 1) := by decide +kernel
theorem d_Mo_doStep_149 : decode c0_Mo_doStep 149 = .ok (.ldc2_w 96, 3) := by decide +kernel
theorem d_Mo_doStep_152 : decode c0_Mo_doStep 152 = .ok (.aload_n 0, 1) := by decide +kernel
theorem d_Mo_doStep_153 : decode c0_Mo_doStep 153 = .ok (.getfield 75, 3) := by decide +kernel
theorem d_Mo_doStep_156 : decode c0_Mo_doStep 156 = .ok (.lmul, 1) := by decide +kernel
theorem d_Mo_doStep_157 : decode c0_Mo_doStep 157 = .ok (.lsub, 1) := by decide +kernel
theorem d_Mo_doStep_158 : decode c0_Mo_doStep 158 = .ok (.invokestatic 51, 3) := by decide +kernel
theorem d_Mo_doStep_161 : decode c0_Mo_doStep 161 = .ok (.putfield 75, 3) := by decide +kernel
theorem d_Mo_doStep_164 : decode c0_Mo_doStep 164 = .ok (.aload_n 0, 1) := by decide +kernel
theorem d_Mo_doStep_165 : decode c0_Mo_doStep 165 = .ok (.aload_n 0, 1) := by decide +kernel
theorem d_Mo_doStep_166 : decode c0_Mo_doStep 166 = .ok (.iload_n 2, 1) := by decide +kernel
theorem d_Mo_doStep_167 : decode c0_Mo_doStep 167 = .ok (.invokevirtual 72, 3) := by decide +kernel
theorem d_Mo_doStep_170 : decode c0_Mo_doStep 170 = .ok (.aload_n 0, 1) := by decide +kernel
theorem d_Mo_doStep_171 : decode c0_Mo_doStep 171 = .ok (.iload_n 3, 1) := by decide +kernel
theorem d_Mo_doStep_172 : decode c0_Mo_doStep 172 = .ok (.invokevirtual 72, 3) := by decide +kernel
theorem d_Mo_doStep_175 : decode c0_Mo_doStep 175 = .ok (.ladd, 1) := by decide +kernel
theorem d_Mo_doStep_176 : decode c0_Mo_doStep 176 = .ok (.aload_n 0, 1) := by decide +kernel
theorem d_Mo_doStep_177 : decode c0_Mo_doStep 177 = .ok (.iload 4, 2) := by decide +kernel
theorem d_Mo_doStep_179 : decode c0_Mo_doStep 179 = .ok (.invokevirtual 72, 3) := by decide +kernel
theorem d_Mo_doStep_182 : decode c0_Mo_doStep 182 = .ok (.ladd, 1) := by decide +kernel
theorem d_Mo_doStep_183 : decode c0_Mo_doStep 183 = .ok (.ldc2_w 96, 3) := by decide +kernel
theorem d_Mo_doStep_186 : decode c0_Mo_doStep 186 = .ok (.aload_n 0, 1) := by decide +kernel
theorem d_Mo_doStep_187 : decode c0_Mo_doStep 187 = .ok (.getfield 78, 3) := by decide +kernel
theorem d_Mo_doStep_190 : decode c0_Mo_doStep 190 = .ok (.lmul, 1) := by decide +kernel
theorem d_Mo_doStep_191 : decode c0_Mo_doStep 191 = .ok (.lsub, 1) := by decide +kernel
theorem d_Mo_doStep_192 : decode c0_Mo_doStep 192 = .ok (.invokestatic 51, 3) := by decide +kernel
theorem d_Mo_doStep_195 : decode c0_Mo_doStep 195 = .ok (.putfield 78, 3) := by decide +kernel
theorem d_Mo_doStep_198 : decode c0_Mo_doStep 198 = .ok (.goto 76, 3) := by decide +kernel
theorem d_Mo_doStep_201 : decode c0_Mo_doStep 201 = .ok (.aload_n 0, 1) := by decide +kernel
theorem d_Mo_doStep_202 : decode c0_Mo_doStep 202 = .ok (.aload_n 0, 1) := by decide +kernel
theorem d_Mo_doStep_203 : decode c0_Mo_doStep 203 = .ok (.iload_n 2, 1) := by decide +kernel
theorem d_Mo_doStep_204 : decode c0_Mo_doStep 204 = .ok (.invokevirtual 68, 3) := by decide +kernel
theorem d_Mo_doStep_207 : decode c0_Mo_doStep 207 = .ok (.aload_n 0, 1) := by decide +kernel
theorem d_Mo_doStep_208 : decode c0_Mo_doStep 208 = .ok (.iload_n 2, 1) := by decide +kernel
theorem d_Mo_doStep_209 : decode c0_Mo_doStep 209 = .ok (.invokevirtual 72, 3) := by decide +kernel
theorem d_Mo_doStep_212 : decode c0_Mo_doStep 212 = .ok (.iload_n 3, 1) := by decide +kernel
theorem d_Mo_doStep_213 : decode c0_Mo_doStep 213 = .ok (.iload 4, 2) := by decide +kernel
theorem d_Mo_doStep_215 : decode c0_Mo_doStep 215 = .ok (.invokevirtual 105, 3) := by decide +kernel
theorem d_Mo_doStep_218 : decode c0_Mo_doStep 218 = .ok (.aload_n 0, 1) := by decide +kernel
theorem d_Mo_doStep_219 : decode c0_Mo_doStep 219 = .ok (.ldc2_w 96, 3) := by decide +kernel
theorem d_Mo_doStep_222 : decode c0_Mo_doStep 222 = .ok (.aload_n 0, 1) := by decide +kernel
theorem d_Mo_doStep_223 : decode c0_Mo_doStep 223 = .ok (.getfield 75, 3) := by decide +kernel
theorem d_Mo_doStep_226 : decode c0_Mo_doStep 226 = .ok (.lmul, 1) := by decide +kernel
theorem d_Mo_doStep_227 : decode c0_Mo_doStep 227 = .ok (.aload_n 0, 1) := by decide +kernel
theorem d_Mo_doStep_228 : decode c0_Mo_doStep 228 = .ok (.iload_n 2, 1) := by decide +kernel
theorem d_Mo_doStep_229 : decode c0_Mo_doStep 229 = .ok (.invokevirtual 68, 3) := by decide +kernel
theorem d_Mo_doStep_232 : decode c0_Mo_doStep 232 = .ok (.lsub, 1) := by decide +kernel
theorem d_Mo_doStep_233 : decode c0_Mo_doStep 233 = .ok (.invokestatic 51, 3) := by decide +kernel
theorem d_Mo_doStep_236 : decode c0_Mo_doStep 236 = .ok (.putfield 75, 3) := by decide +kernel
theorem d_Mo_doStep_239 : decode c0_Mo_doStep 239 = .ok (.aload_n 0, 1) := by decide +kernel
theorem d_Mo_doStep_240 : decode c0_Mo_doStep 240 = .ok (.ldc2_w 96, 3) := by decide +kernel
theorem d_Mo_doStep_243 : decode c0_Mo_doStep 243 = .ok (.aload_n 0, 1) := by decide +kernel
theorem d_Mo_doStep_244 : decode c0_Mo_doStep 244 = .ok (.getfield 78, 3) := by decide +kernel
theorem d_Mo_doStep_247 : decode c0_Mo_doStep 247 = .ok (.lmul, 1) := by decide +kernel
theorem d_Mo_doStep_248 : decode c0_Mo_doStep 248 = .ok (.aload_n 0, 1) := by decide +kernel
theorem d_Mo_doStep_249 : decode c0_Mo_doStep 249 = .ok (.iload_n 2, 1) := by decide +kernel
theorem d_Mo_doStep_250 : decode c0_Mo_doStep 250 = .ok (.invokevirtual 72, 3) := by decide +kernel
theorem d_Mo_doStep_253 : decode c0_Mo_doStep 253 = .ok (.lsub, 1) := by decide +kernel
theorem d_Mo_doStep_254 : decode c0_Mo_doStep 254 = .ok (.invokestatic 51, 3) := by decide +kernel
theorem d_Mo_doStep_257 : decode c0_Mo_doStep 257 = .ok (.putfield 78, 3) := by decide +kernel
theorem d_Mo_doStep_260 : decode c0_Mo_doStep 260 = .ok (.goto 14, 3) := by decide +kernel
theorem d_Mo_doStep_263 : decode c0_Mo_doStep 263 = .ok (.aload_n 0, 1) := by decide +kernel
theorem d_Mo_doStep_264 : decode c0_Mo_doStep 264 = .ok (.iload_n 1, 1) := by decide +kernel
theorem d_Mo_doStep_265 : decode c0_Mo_doStep 265 = .ok (.iload_n 2, 1) := by decide +kernel
theorem d_Mo_doStep_266 : decode c0_Mo_doStep 266 = .ok (.iload_n 3, 1) := by decide +kernel
theorem d_Mo_doStep_267 : decode c0_Mo_doStep 267 = .ok (.iload 4, 2) := by decide +kernel
theorem d_Mo_doStep_269 : decode c0_Mo_doStep 269 = .ok (.iload 5, 2) := by decide +kernel
theorem d_Mo_doStep_271 : decode c0_Mo_doStep 271 = .ok (.invokevirtual 117, 3) := by decide +kernel
theorem d_Mo_doStep_274 : decode c0_Mo_doStep 274 = .ok (.return_, 1) := by decide +kernel
def f_Mo_doStep (K : Nat → ClassId) (N : Nat) (o : Nat) (a1 : Int32) (a2 : Int32) (a3 : Int32) (a4 : Int32) (a5 : Int32) (h0 : fh_H) : Option (fh_H) :=
  if a1 = 0 then ((fg_o h0 (some o) 6).bind fun o3 => (f_Mo_drawn K N o3 h0).bind fun r4 => (fp_v r4.2 (some o) 6 10 (.long r4.1)).bind fun h5 => (fg_o h5 (some o) 6).bind fun o6 => (f_Mo_drawn K N o6 h5).bind fun r7 => (fp_v r7.2 (some o) 6 11 (.long r7.1)).bind fun h8 => some h8) else (if a1 = 1 then ((f_Mo_inverse K N 2 h0).bind fun r9 => (fg_o r9.2 (some o) 6).bind fun o10 => (f_Mo_along K N o10 a2 a3 r9.1 r9.2).bind fun r11 => some r11) else (if a1 = 2 then ((fg_o h0 (some o) 6).bind fun o12 => (f_Mo_px K N o12 a2 h0).bind fun r13 => (fg_o r13.2 (some o) 6).bind fun o14 => (f_Mo_py K N o14 a2 r13.2).bind fun r15 => (fg_o r15.2 (some o) 6).bind fun o16 => (f_Mo_foot K N o16 r13.1 r15.1 a3 a4 r15.2).bind fun r17 => some r17) else (if a1 = 3 then ((fg_o h0 (some o) 6).bind fun o18 => (f_Mo_meet K N o18 a2 a3 a4 a5 h0).bind fun r19 => some r19) else (if a1 = 4 then ((fg_o h0 (some o) 6).bind fun o20 => (f_Mo_centre K N o20 a2 a3 a4 h0).bind fun r21 => some r21) else (if a1 = 5 then ((fg_o h0 (some o) 6).bind fun o22 => (f_Mo_centre K N o22 a2 a3 a4 h0).bind fun r23 => (fg_o r23 (some o) 6).bind fun o24 => (f_Mo_px K N o24 a2 r23).bind fun r25 => (fg_o r25.2 (some o) 6).bind fun o26 => (f_Mo_px K N o26 a3 r25.2).bind fun r27 => (fg_o r27.2 (some o) 6).bind fun o28 => (f_Mo_px K N o28 a4 r27.2).bind fun r29 => (fg_l r29.2 (some o) 6 10).bind fun x30 => (f_Mo_mod K N (((r25.1 + r27.1) + r29.1) - (2 * x30)) r29.2).bind fun r31 => (fp_v r31.2 (some o) 6 10 (.long r31.1)).bind fun h32 => (fg_o h32 (some o) 6).bind fun o33 => (f_Mo_py K N o33 a2 h32).bind fun r34 => (fg_o r34.2 (some o) 6).bind fun o35 => (f_Mo_py K N o35 a3 r34.2).bind fun r36 => (fg_o r36.2 (some o) 6).bind fun o37 => (f_Mo_py K N o37 a4 r36.2).bind fun r38 => (fg_l r38.2 (some o) 6 11).bind fun x39 => (f_Mo_mod K N (((r34.1 + r36.1) + r38.1) - (2 * x39)) r38.2).bind fun r40 => (fp_v r40.2 (some o) 6 11 (.long r40.1)).bind fun h41 => some h41) else (if a1 = 6 then ((fg_o h0 (some o) 6).bind fun o42 => (f_Mo_px K N o42 a2 h0).bind fun r43 => (fg_o r43.2 (some o) 6).bind fun o44 => (f_Mo_py K N o44 a2 r43.2).bind fun r45 => (fg_o r45.2 (some o) 6).bind fun o46 => (f_Mo_foot K N o46 r43.1 r45.1 a3 a4 r45.2).bind fun r47 => (fg_l r47 (some o) 6 10).bind fun x48 => (fg_o r47 (some o) 6).bind fun o49 => (f_Mo_px K N o49 a2 r47).bind fun r50 => (f_Mo_mod K N ((2 * x48) - r50.1) r50.2).bind fun r51 => (fp_v r51.2 (some o) 6 10 (.long r51.1)).bind fun h52 => (fg_l h52 (some o) 6 11).bind fun x53 => (fg_o h52 (some o) 6).bind fun o54 => (f_Mo_py K N o54 a2 h52).bind fun r55 => (f_Mo_mod K N ((2 * x53) - r55.1) r55.2).bind fun r56 => (fp_v r56.2 (some o) 6 11 (.long r56.1)).bind fun h57 => some h57) else ((fg_o h0 (some o) 6).bind fun o1 => (f_Mo_doMore K N o1 a1 a2 a3 a4 a5 h0).bind fun r2 => some r2)))))))
set_option maxHeartbeats 4000000 in
set_option maxRecDepth 100000 in
theorem c_Mo_doStep {l : Launch} {D : va_G} {K : Nat → ClassId} {t : Nat → Nat} {N : Nat} {o : Nat} {a1 : Int32} {a2 : Int32} {a3 : Int32} {a4 : Int32} {a5 : Int32} {h0 : fh_H} {res : fh_H} (hf : f_Mo_doStep K N o a1 a2 a3 a4 a5 h0 = some res) : fC l D K t y_Mo_doStep c0_Mo_doStep 6 none rm_Mo_doStep [.ref o, .int a1, .int a2, .int a3, .int a4, .int a5] h0 (none) res := by
  refine fh_body (by decide) (Nat.le_of_ble_eq_true rfl) ?_
  intro p e s m below meth c A ls S hr hk hnm hE hAe hI hl
  obtain ⟨hx, hb, hml, hown, hts⟩ := id S
  have hl : lv_has ls 6 [(0, va_rf (some o)), (1, .int a1), (2, .int a2), (3, .int a3), (4, .int a4), (5, .int a5)] := hl
  unfold f_Mo_doStep at hf
  refine lv_iload_n hx hb d_Mo_doStep_0 rfl (lv_at hl 1 rfl) ?_
  by_cases c_1_0 : a1 = 0
  · replace hf := fh_t c_1_0 hf
    refine lv_tableIn (tgt := 44) hx hb d_Mo_doStep_1 (by rw [c_1_0]; decide) (by rw [c_1_0]; decide) (off := 43) (by rw [c_1_0]; decide) (by decide) ?_
    refine fh_aload_n S d_Mo_doStep_44 rfl (lv_at hl 0 rfl) ?_
    refine fh_aload_n S d_Mo_doStep_45 rfl (lv_at hl 0 rfl) ?_
    obtain ⟨o3, e_o3, hf⟩ := fh_b hf
    obtain ⟨r4, e_r4, hf⟩ := fh_b hf
    refine fh_callV (As := []) (rest := [va_rf (some o)]) S fT_good hE hI e_o3 rfl (c_Mo_drawn e_r4) fy_Mo_drawn fst_Mo_drawn k_155 ⟨rfl, rfl⟩ ⟨Nat.le_of_ble_eq_true rfl, Nat.le_of_ble_eq_true rfl⟩ ⟨Nat.zero_le _, Nat.zero_le _⟩ rfl hl.1 rfl (Nat.le_of_ble_eq_true rfl) d_Mo_doStep_46 (fun H locs hI => ?_)
    obtain ⟨h5, e_h5, hf⟩ := fh_b hf
    refine fh_putv S hE.1 hI e_h5 (hc := rfl) (hin := in_6) tok_6 nok_6 (by decide) (hts _ k_145) rfl rfl rfl d_Mo_doStep_49 (fun H locs hI => ?_)
    refine fh_aload_n S d_Mo_doStep_52 rfl (lv_at hl 0 rfl) ?_
    refine fh_aload_n S d_Mo_doStep_53 rfl (lv_at hl 0 rfl) ?_
    obtain ⟨o6, e_o6, hf⟩ := fh_b hf
    obtain ⟨r7, e_r7, hf⟩ := fh_b hf
    refine fh_callV (As := []) (rest := [va_rf (some o)]) S fT_good hE hI e_o6 rfl (c_Mo_drawn e_r7) fy_Mo_drawn fst_Mo_drawn k_155 ⟨rfl, rfl⟩ ⟨Nat.le_of_ble_eq_true rfl, Nat.le_of_ble_eq_true rfl⟩ ⟨Nat.zero_le _, Nat.zero_le _⟩ rfl hl.1 rfl (Nat.le_of_ble_eq_true rfl) d_Mo_doStep_54 (fun H locs hI => ?_)
    obtain ⟨h8, e_h8, hf⟩ := fh_b hf
    refine fh_putv S hE.1 hI e_h8 (hc := rfl) (hin := in_6) tok_6 nok_6 (by decide) (hts _ k_146) rfl rfl rfl d_Mo_doStep_57 (fun H locs hI => ?_)
    refine lv_goto (tgt := 274) hx hb d_Mo_doStep_60 (by decide) ?_
    obtain rfl := Option.some.inj hf
    exact fh_vret S hr hk hAe hI d_Mo_doStep_274
  replace hf := fh_f c_1_0 hf
  by_cases c_1_1 : a1 = 1
  · replace hf := fh_t c_1_1 hf
    refine lv_tableIn (tgt := 63) hx hb d_Mo_doStep_1 (by rw [c_1_1]; decide) (by rw [c_1_1]; decide) (off := 62) (by rw [c_1_1]; decide) (by decide) ?_
    refine fh_aload_n S d_Mo_doStep_63 rfl (lv_at hl 0 rfl) ?_
    refine lv_iload_n hx hb d_Mo_doStep_64 rfl (lv_at hl 2 rfl) ?_
    refine lv_iload_n hx hb d_Mo_doStep_65 rfl (lv_at hl 3 rfl) ?_
    refine lv_ldc2 hx hb hown (hts _ k_152) d_Mo_doStep_66 ?_
    obtain ⟨r9, e_r9, hf⟩ := fh_b hf
    refine fh_callS (As := [.long 2]) (rest := [.int a3, .int a2, va_rf (some o)]) S fT_good hE hI (c_Mo_inverse e_r9) fy_Mo_inverse fst_Mo_inverse k_148 ⟨rfl, rfl⟩ ⟨Nat.le_of_ble_eq_true rfl, Nat.le_of_ble_eq_true rfl⟩ ⟨Nat.zero_le _, Nat.zero_le _⟩ rfl hl.1 rfl (Nat.le_of_ble_eq_true rfl) d_Mo_doStep_69 (fun H locs hI => ?_)
    obtain ⟨o10, e_o10, hf⟩ := fh_b hf
    obtain ⟨r11, e_r11, hf⟩ := fh_b hf
    refine fh_callV (As := [.int a2, .int a3, .long r9.1]) (rest := []) S fT_good hE hI e_o10 rfl (c_Mo_along e_r11) fy_Mo_along fst_Mo_along k_149 ⟨rfl, rfl⟩ ⟨Nat.le_of_ble_eq_true rfl, Nat.le_of_ble_eq_true rfl⟩ ⟨Nat.zero_le _, Nat.zero_le _⟩ rfl hl.1 rfl (Nat.le_of_ble_eq_true rfl) d_Mo_doStep_72 (fun H locs hI => ?_)
    refine lv_goto (tgt := 274) hx hb d_Mo_doStep_75 (by decide) ?_
    obtain rfl := Option.some.inj hf
    exact fh_vret S hr hk hAe hI d_Mo_doStep_274
  replace hf := fh_f c_1_1 hf
  by_cases c_1_2 : a1 = 2
  · replace hf := fh_t c_1_2 hf
    refine lv_tableIn (tgt := 78) hx hb d_Mo_doStep_1 (by rw [c_1_2]; decide) (by rw [c_1_2]; decide) (off := 77) (by rw [c_1_2]; decide) (by decide) ?_
    refine fh_aload_n S d_Mo_doStep_78 rfl (lv_at hl 0 rfl) ?_
    refine fh_aload_n S d_Mo_doStep_79 rfl (lv_at hl 0 rfl) ?_
    refine lv_iload_n hx hb d_Mo_doStep_80 rfl (lv_at hl 2 rfl) ?_
    obtain ⟨o12, e_o12, hf⟩ := fh_b hf
    obtain ⟨r13, e_r13, hf⟩ := fh_b hf
    refine fh_callV (As := [.int a2]) (rest := [va_rf (some o)]) S fT_good hE hI e_o12 rfl (c_Mo_px e_r13) fy_Mo_px fst_Mo_px k_143 ⟨rfl, rfl⟩ ⟨Nat.le_of_ble_eq_true rfl, Nat.le_of_ble_eq_true rfl⟩ ⟨Nat.zero_le _, Nat.zero_le _⟩ rfl hl.1 rfl (Nat.le_of_ble_eq_true rfl) d_Mo_doStep_81 (fun H locs hI => ?_)
    refine fh_aload_n S d_Mo_doStep_84 rfl (lv_at hl 0 rfl) ?_
    refine lv_iload_n hx hb d_Mo_doStep_85 rfl (lv_at hl 2 rfl) ?_
    obtain ⟨o14, e_o14, hf⟩ := fh_b hf
    obtain ⟨r15, e_r15, hf⟩ := fh_b hf
    refine fh_callV (As := [.int a2]) (rest := [.long r13.1, va_rf (some o)]) S fT_good hE hI e_o14 rfl (c_Mo_py e_r15) fy_Mo_py fst_Mo_py k_144 ⟨rfl, rfl⟩ ⟨Nat.le_of_ble_eq_true rfl, Nat.le_of_ble_eq_true rfl⟩ ⟨Nat.zero_le _, Nat.zero_le _⟩ rfl hl.1 rfl (Nat.le_of_ble_eq_true rfl) d_Mo_doStep_86 (fun H locs hI => ?_)
    refine lv_iload_n hx hb d_Mo_doStep_89 rfl (lv_at hl 3 rfl) ?_
    refine lv_iload hx hb d_Mo_doStep_90 (lv_at hl 4 rfl) ?_
    obtain ⟨o16, e_o16, hf⟩ := fh_b hf
    obtain ⟨r17, e_r17, hf⟩ := fh_b hf
    refine fh_callV (As := [.long r13.1, .long r15.1, .int a3, .int a4]) (rest := []) S fT_good hE hI e_o16 rfl (c_Mo_foot e_r17) fy_Mo_foot fst_Mo_foot k_154 ⟨rfl, rfl⟩ ⟨Nat.le_of_ble_eq_true rfl, Nat.le_of_ble_eq_true rfl⟩ ⟨Nat.zero_le _, Nat.zero_le _⟩ rfl hl.1 rfl (Nat.le_of_ble_eq_true rfl) d_Mo_doStep_92 (fun H locs hI => ?_)
    refine lv_goto (tgt := 274) hx hb d_Mo_doStep_95 (by decide) ?_
    obtain rfl := Option.some.inj hf
    exact fh_vret S hr hk hAe hI d_Mo_doStep_274
  replace hf := fh_f c_1_2 hf
  by_cases c_1_3 : a1 = 3
  · replace hf := fh_t c_1_3 hf
    refine lv_tableIn (tgt := 98) hx hb d_Mo_doStep_1 (by rw [c_1_3]; decide) (by rw [c_1_3]; decide) (off := 97) (by rw [c_1_3]; decide) (by decide) ?_
    refine fh_aload_n S d_Mo_doStep_98 rfl (lv_at hl 0 rfl) ?_
    refine lv_iload_n hx hb d_Mo_doStep_99 rfl (lv_at hl 2 rfl) ?_
    refine lv_iload_n hx hb d_Mo_doStep_100 rfl (lv_at hl 3 rfl) ?_
    refine lv_iload hx hb d_Mo_doStep_101 (lv_at hl 4 rfl) ?_
    refine lv_iload hx hb d_Mo_doStep_103 (lv_at hl 5 rfl) ?_
    obtain ⟨o18, e_o18, hf⟩ := fh_b hf
    obtain ⟨r19, e_r19, hf⟩ := fh_b hf
    refine fh_callV (As := [.int a2, .int a3, .int a4, .int a5]) (rest := []) S fT_good hE hI e_o18 rfl (c_Mo_meet e_r19) fy_Mo_meet fst_Mo_meet k_159 ⟨rfl, rfl⟩ ⟨Nat.le_of_ble_eq_true rfl, Nat.le_of_ble_eq_true rfl⟩ ⟨Nat.zero_le _, Nat.zero_le _⟩ rfl hl.1 rfl (Nat.le_of_ble_eq_true rfl) d_Mo_doStep_105 (fun H locs hI => ?_)
    refine lv_goto (tgt := 274) hx hb d_Mo_doStep_108 (by decide) ?_
    obtain rfl := Option.some.inj hf
    exact fh_vret S hr hk hAe hI d_Mo_doStep_274
  replace hf := fh_f c_1_3 hf
  by_cases c_1_4 : a1 = 4
  · replace hf := fh_t c_1_4 hf
    refine lv_tableIn (tgt := 111) hx hb d_Mo_doStep_1 (by rw [c_1_4]; decide) (by rw [c_1_4]; decide) (off := 110) (by rw [c_1_4]; decide) (by decide) ?_
    refine fh_aload_n S d_Mo_doStep_111 rfl (lv_at hl 0 rfl) ?_
    refine lv_iload_n hx hb d_Mo_doStep_112 rfl (lv_at hl 2 rfl) ?_
    refine lv_iload_n hx hb d_Mo_doStep_113 rfl (lv_at hl 3 rfl) ?_
    refine lv_iload hx hb d_Mo_doStep_114 (lv_at hl 4 rfl) ?_
    obtain ⟨o20, e_o20, hf⟩ := fh_b hf
    obtain ⟨r21, e_r21, hf⟩ := fh_b hf
    refine fh_callV (As := [.int a2, .int a3, .int a4]) (rest := []) S fT_good hE hI e_o20 rfl (c_Mo_centre e_r21) fy_Mo_centre fst_Mo_centre k_153 ⟨rfl, rfl⟩ ⟨Nat.le_of_ble_eq_true rfl, Nat.le_of_ble_eq_true rfl⟩ ⟨Nat.zero_le _, Nat.zero_le _⟩ rfl hl.1 rfl (Nat.le_of_ble_eq_true rfl) d_Mo_doStep_116 (fun H locs hI => ?_)
    refine lv_goto (tgt := 274) hx hb d_Mo_doStep_119 (by decide) ?_
    obtain rfl := Option.some.inj hf
    exact fh_vret S hr hk hAe hI d_Mo_doStep_274
  replace hf := fh_f c_1_4 hf
  by_cases c_1_5 : a1 = 5
  · replace hf := fh_t c_1_5 hf
    refine lv_tableIn (tgt := 122) hx hb d_Mo_doStep_1 (by rw [c_1_5]; decide) (by rw [c_1_5]; decide) (off := 121) (by rw [c_1_5]; decide) (by decide) ?_
    refine fh_aload_n S d_Mo_doStep_122 rfl (lv_at hl 0 rfl) ?_
    refine lv_iload_n hx hb d_Mo_doStep_123 rfl (lv_at hl 2 rfl) ?_
    refine lv_iload_n hx hb d_Mo_doStep_124 rfl (lv_at hl 3 rfl) ?_
    refine lv_iload hx hb d_Mo_doStep_125 (lv_at hl 4 rfl) ?_
    obtain ⟨o22, e_o22, hf⟩ := fh_b hf
    obtain ⟨r23, e_r23, hf⟩ := fh_b hf
    refine fh_callV (As := [.int a2, .int a3, .int a4]) (rest := []) S fT_good hE hI e_o22 rfl (c_Mo_centre e_r23) fy_Mo_centre fst_Mo_centre k_153 ⟨rfl, rfl⟩ ⟨Nat.le_of_ble_eq_true rfl, Nat.le_of_ble_eq_true rfl⟩ ⟨Nat.zero_le _, Nat.zero_le _⟩ rfl hl.1 rfl (Nat.le_of_ble_eq_true rfl) d_Mo_doStep_127 (fun H locs hI => ?_)
    refine fh_aload_n S d_Mo_doStep_130 rfl (lv_at hl 0 rfl) ?_
    refine fh_aload_n S d_Mo_doStep_131 rfl (lv_at hl 0 rfl) ?_
    refine lv_iload_n hx hb d_Mo_doStep_132 rfl (lv_at hl 2 rfl) ?_
    obtain ⟨o24, e_o24, hf⟩ := fh_b hf
    obtain ⟨r25, e_r25, hf⟩ := fh_b hf
    refine fh_callV (As := [.int a2]) (rest := [va_rf (some o)]) S fT_good hE hI e_o24 rfl (c_Mo_px e_r25) fy_Mo_px fst_Mo_px k_143 ⟨rfl, rfl⟩ ⟨Nat.le_of_ble_eq_true rfl, Nat.le_of_ble_eq_true rfl⟩ ⟨Nat.zero_le _, Nat.zero_le _⟩ rfl hl.1 rfl (Nat.le_of_ble_eq_true rfl) d_Mo_doStep_133 (fun H locs hI => ?_)
    refine fh_aload_n S d_Mo_doStep_136 rfl (lv_at hl 0 rfl) ?_
    refine lv_iload_n hx hb d_Mo_doStep_137 rfl (lv_at hl 3 rfl) ?_
    obtain ⟨o26, e_o26, hf⟩ := fh_b hf
    obtain ⟨r27, e_r27, hf⟩ := fh_b hf
    refine fh_callV (As := [.int a3]) (rest := [.long r25.1, va_rf (some o)]) S fT_good hE hI e_o26 rfl (c_Mo_px e_r27) fy_Mo_px fst_Mo_px k_143 ⟨rfl, rfl⟩ ⟨Nat.le_of_ble_eq_true rfl, Nat.le_of_ble_eq_true rfl⟩ ⟨Nat.zero_le _, Nat.zero_le _⟩ rfl hl.1 rfl (Nat.le_of_ble_eq_true rfl) d_Mo_doStep_138 (fun H locs hI => ?_)
    refine lv_ladd hx hb d_Mo_doStep_141 ?_
    refine fh_aload_n S d_Mo_doStep_142 rfl (lv_at hl 0 rfl) ?_
    refine lv_iload hx hb d_Mo_doStep_143 (lv_at hl 4 rfl) ?_
    obtain ⟨o28, e_o28, hf⟩ := fh_b hf
    obtain ⟨r29, e_r29, hf⟩ := fh_b hf
    refine fh_callV (As := [.int a4]) (rest := [.long (r25.1 + r27.1), va_rf (some o)]) S fT_good hE hI e_o28 rfl (c_Mo_px e_r29) fy_Mo_px fst_Mo_px k_143 ⟨rfl, rfl⟩ ⟨Nat.le_of_ble_eq_true rfl, Nat.le_of_ble_eq_true rfl⟩ ⟨Nat.zero_le _, Nat.zero_le _⟩ rfl hl.1 rfl (Nat.le_of_ble_eq_true rfl) d_Mo_doStep_145 (fun H locs hI => ?_)
    refine lv_ladd hx hb d_Mo_doStep_148 ?_
    refine lv_ldc2 hx hb hown (hts _ k_152) d_Mo_doStep_149 ?_
    refine fh_aload_n S d_Mo_doStep_152 rfl (lv_at hl 0 rfl) ?_
    obtain ⟨x30, e_x30, hf⟩ := fh_b hf
    refine fh_getl S hE.1 hI e_x30 (hc := rfl) (hin := in_6) (by decide) (hts _ k_145) d_Mo_doStep_153 ?_
    refine lv_lmul hx hb d_Mo_doStep_156 ?_
    refine lv_lsub hx hb d_Mo_doStep_157 ?_
    obtain ⟨r31, e_r31, hf⟩ := fh_b hf
    refine fh_callS (As := [.long (((r25.1 + r27.1) + r29.1) - (2 * x30))]) (rest := [va_rf (some o)]) S fT_good hE hI (c_Mo_mod e_r31) fy_Mo_mod fst_Mo_mod k_135 ⟨rfl, rfl⟩ ⟨Nat.le_of_ble_eq_true rfl, Nat.le_of_ble_eq_true rfl⟩ ⟨Nat.zero_le _, Nat.zero_le _⟩ rfl hl.1 rfl (Nat.le_of_ble_eq_true rfl) d_Mo_doStep_158 (fun H locs hI => ?_)
    obtain ⟨h32, e_h32, hf⟩ := fh_b hf
    refine fh_putv S hE.1 hI e_h32 (hc := rfl) (hin := in_6) tok_6 nok_6 (by decide) (hts _ k_145) rfl rfl rfl d_Mo_doStep_161 (fun H locs hI => ?_)
    refine fh_aload_n S d_Mo_doStep_164 rfl (lv_at hl 0 rfl) ?_
    refine fh_aload_n S d_Mo_doStep_165 rfl (lv_at hl 0 rfl) ?_
    refine lv_iload_n hx hb d_Mo_doStep_166 rfl (lv_at hl 2 rfl) ?_
    obtain ⟨o33, e_o33, hf⟩ := fh_b hf
    obtain ⟨r34, e_r34, hf⟩ := fh_b hf
    refine fh_callV (As := [.int a2]) (rest := [va_rf (some o)]) S fT_good hE hI e_o33 rfl (c_Mo_py e_r34) fy_Mo_py fst_Mo_py k_144 ⟨rfl, rfl⟩ ⟨Nat.le_of_ble_eq_true rfl, Nat.le_of_ble_eq_true rfl⟩ ⟨Nat.zero_le _, Nat.zero_le _⟩ rfl hl.1 rfl (Nat.le_of_ble_eq_true rfl) d_Mo_doStep_167 (fun H locs hI => ?_)
    refine fh_aload_n S d_Mo_doStep_170 rfl (lv_at hl 0 rfl) ?_
    refine lv_iload_n hx hb d_Mo_doStep_171 rfl (lv_at hl 3 rfl) ?_
    obtain ⟨o35, e_o35, hf⟩ := fh_b hf
    obtain ⟨r36, e_r36, hf⟩ := fh_b hf
    refine fh_callV (As := [.int a3]) (rest := [.long r34.1, va_rf (some o)]) S fT_good hE hI e_o35 rfl (c_Mo_py e_r36) fy_Mo_py fst_Mo_py k_144 ⟨rfl, rfl⟩ ⟨Nat.le_of_ble_eq_true rfl, Nat.le_of_ble_eq_true rfl⟩ ⟨Nat.zero_le _, Nat.zero_le _⟩ rfl hl.1 rfl (Nat.le_of_ble_eq_true rfl) d_Mo_doStep_172 (fun H locs hI => ?_)
    refine lv_ladd hx hb d_Mo_doStep_175 ?_
    refine fh_aload_n S d_Mo_doStep_176 rfl (lv_at hl 0 rfl) ?_
    refine lv_iload hx hb d_Mo_doStep_177 (lv_at hl 4 rfl) ?_
    obtain ⟨o37, e_o37, hf⟩ := fh_b hf
    obtain ⟨r38, e_r38, hf⟩ := fh_b hf
    refine fh_callV (As := [.int a4]) (rest := [.long (r34.1 + r36.1), va_rf (some o)]) S fT_good hE hI e_o37 rfl (c_Mo_py e_r38) fy_Mo_py fst_Mo_py k_144 ⟨rfl, rfl⟩ ⟨Nat.le_of_ble_eq_true rfl, Nat.le_of_ble_eq_true rfl⟩ ⟨Nat.zero_le _, Nat.zero_le _⟩ rfl hl.1 rfl (Nat.le_of_ble_eq_true rfl) d_Mo_doStep_179 (fun H locs hI => ?_)
    refine lv_ladd hx hb d_Mo_doStep_182 ?_
    refine lv_ldc2 hx hb hown (hts _ k_152) d_Mo_doStep_183 ?_
    refine fh_aload_n S d_Mo_doStep_186 rfl (lv_at hl 0 rfl) ?_
    obtain ⟨x39, e_x39, hf⟩ := fh_b hf
    refine fh_getl S hE.1 hI e_x39 (hc := rfl) (hin := in_6) (by decide) (hts _ k_146) d_Mo_doStep_187 ?_
    refine lv_lmul hx hb d_Mo_doStep_190 ?_
    refine lv_lsub hx hb d_Mo_doStep_191 ?_
    obtain ⟨r40, e_r40, hf⟩ := fh_b hf
    refine fh_callS (As := [.long (((r34.1 + r36.1) + r38.1) - (2 * x39))]) (rest := [va_rf (some o)]) S fT_good hE hI (c_Mo_mod e_r40) fy_Mo_mod fst_Mo_mod k_135 ⟨rfl, rfl⟩ ⟨Nat.le_of_ble_eq_true rfl, Nat.le_of_ble_eq_true rfl⟩ ⟨Nat.zero_le _, Nat.zero_le _⟩ rfl hl.1 rfl (Nat.le_of_ble_eq_true rfl) d_Mo_doStep_192 (fun H locs hI => ?_)
    obtain ⟨h41, e_h41, hf⟩ := fh_b hf
    refine fh_putv S hE.1 hI e_h41 (hc := rfl) (hin := in_6) tok_6 nok_6 (by decide) (hts _ k_146) rfl rfl rfl d_Mo_doStep_195 (fun H locs hI => ?_)
    refine lv_goto (tgt := 274) hx hb d_Mo_doStep_198 (by decide) ?_
    obtain rfl := Option.some.inj hf
    exact fh_vret S hr hk hAe hI d_Mo_doStep_274
  replace hf := fh_f c_1_5 hf
  by_cases c_1_6 : a1 = 6
  · replace hf := fh_t c_1_6 hf
    refine lv_tableIn (tgt := 201) hx hb d_Mo_doStep_1 (by rw [c_1_6]; decide) (by rw [c_1_6]; decide) (off := 200) (by rw [c_1_6]; decide) (by decide) ?_
    refine fh_aload_n S d_Mo_doStep_201 rfl (lv_at hl 0 rfl) ?_
    refine fh_aload_n S d_Mo_doStep_202 rfl (lv_at hl 0 rfl) ?_
    refine lv_iload_n hx hb d_Mo_doStep_203 rfl (lv_at hl 2 rfl) ?_
    obtain ⟨o42, e_o42, hf⟩ := fh_b hf
    obtain ⟨r43, e_r43, hf⟩ := fh_b hf
    refine fh_callV (As := [.int a2]) (rest := [va_rf (some o)]) S fT_good hE hI e_o42 rfl (c_Mo_px e_r43) fy_Mo_px fst_Mo_px k_143 ⟨rfl, rfl⟩ ⟨Nat.le_of_ble_eq_true rfl, Nat.le_of_ble_eq_true rfl⟩ ⟨Nat.zero_le _, Nat.zero_le _⟩ rfl hl.1 rfl (Nat.le_of_ble_eq_true rfl) d_Mo_doStep_204 (fun H locs hI => ?_)
    refine fh_aload_n S d_Mo_doStep_207 rfl (lv_at hl 0 rfl) ?_
    refine lv_iload_n hx hb d_Mo_doStep_208 rfl (lv_at hl 2 rfl) ?_
    obtain ⟨o44, e_o44, hf⟩ := fh_b hf
    obtain ⟨r45, e_r45, hf⟩ := fh_b hf
    refine fh_callV (As := [.int a2]) (rest := [.long r43.1, va_rf (some o)]) S fT_good hE hI e_o44 rfl (c_Mo_py e_r45) fy_Mo_py fst_Mo_py k_144 ⟨rfl, rfl⟩ ⟨Nat.le_of_ble_eq_true rfl, Nat.le_of_ble_eq_true rfl⟩ ⟨Nat.zero_le _, Nat.zero_le _⟩ rfl hl.1 rfl (Nat.le_of_ble_eq_true rfl) d_Mo_doStep_209 (fun H locs hI => ?_)
    refine lv_iload_n hx hb d_Mo_doStep_212 rfl (lv_at hl 3 rfl) ?_
    refine lv_iload hx hb d_Mo_doStep_213 (lv_at hl 4 rfl) ?_
    obtain ⟨o46, e_o46, hf⟩ := fh_b hf
    obtain ⟨r47, e_r47, hf⟩ := fh_b hf
    refine fh_callV (As := [.long r43.1, .long r45.1, .int a3, .int a4]) (rest := []) S fT_good hE hI e_o46 rfl (c_Mo_foot e_r47) fy_Mo_foot fst_Mo_foot k_154 ⟨rfl, rfl⟩ ⟨Nat.le_of_ble_eq_true rfl, Nat.le_of_ble_eq_true rfl⟩ ⟨Nat.zero_le _, Nat.zero_le _⟩ rfl hl.1 rfl (Nat.le_of_ble_eq_true rfl) d_Mo_doStep_215 (fun H locs hI => ?_)
    refine fh_aload_n S d_Mo_doStep_218 rfl (lv_at hl 0 rfl) ?_
    refine lv_ldc2 hx hb hown (hts _ k_152) d_Mo_doStep_219 ?_
    refine fh_aload_n S d_Mo_doStep_222 rfl (lv_at hl 0 rfl) ?_
    obtain ⟨x48, e_x48, hf⟩ := fh_b hf
    refine fh_getl S hE.1 hI e_x48 (hc := rfl) (hin := in_6) (by decide) (hts _ k_145) d_Mo_doStep_223 ?_
    refine lv_lmul hx hb d_Mo_doStep_226 ?_
    refine fh_aload_n S d_Mo_doStep_227 rfl (lv_at hl 0 rfl) ?_
    refine lv_iload_n hx hb d_Mo_doStep_228 rfl (lv_at hl 2 rfl) ?_
    obtain ⟨o49, e_o49, hf⟩ := fh_b hf
    obtain ⟨r50, e_r50, hf⟩ := fh_b hf
    refine fh_callV (As := [.int a2]) (rest := [.long (2 * x48), va_rf (some o)]) S fT_good hE hI e_o49 rfl (c_Mo_px e_r50) fy_Mo_px fst_Mo_px k_143 ⟨rfl, rfl⟩ ⟨Nat.le_of_ble_eq_true rfl, Nat.le_of_ble_eq_true rfl⟩ ⟨Nat.zero_le _, Nat.zero_le _⟩ rfl hl.1 rfl (Nat.le_of_ble_eq_true rfl) d_Mo_doStep_229 (fun H locs hI => ?_)
    refine lv_lsub hx hb d_Mo_doStep_232 ?_
    obtain ⟨r51, e_r51, hf⟩ := fh_b hf
    refine fh_callS (As := [.long ((2 * x48) - r50.1)]) (rest := [va_rf (some o)]) S fT_good hE hI (c_Mo_mod e_r51) fy_Mo_mod fst_Mo_mod k_135 ⟨rfl, rfl⟩ ⟨Nat.le_of_ble_eq_true rfl, Nat.le_of_ble_eq_true rfl⟩ ⟨Nat.zero_le _, Nat.zero_le _⟩ rfl hl.1 rfl (Nat.le_of_ble_eq_true rfl) d_Mo_doStep_233 (fun H locs hI => ?_)
    obtain ⟨h52, e_h52, hf⟩ := fh_b hf
    refine fh_putv S hE.1 hI e_h52 (hc := rfl) (hin := in_6) tok_6 nok_6 (by decide) (hts _ k_145) rfl rfl rfl d_Mo_doStep_236 (fun H locs hI => ?_)
    refine fh_aload_n S d_Mo_doStep_239 rfl (lv_at hl 0 rfl) ?_
    refine lv_ldc2 hx hb hown (hts _ k_152) d_Mo_doStep_240 ?_
    refine fh_aload_n S d_Mo_doStep_243 rfl (lv_at hl 0 rfl) ?_
    obtain ⟨x53, e_x53, hf⟩ := fh_b hf
    refine fh_getl S hE.1 hI e_x53 (hc := rfl) (hin := in_6) (by decide) (hts _ k_146) d_Mo_doStep_244 ?_
    refine lv_lmul hx hb d_Mo_doStep_247 ?_
    refine fh_aload_n S d_Mo_doStep_248 rfl (lv_at hl 0 rfl) ?_
    refine lv_iload_n hx hb d_Mo_doStep_249 rfl (lv_at hl 2 rfl) ?_
    obtain ⟨o54, e_o54, hf⟩ := fh_b hf
    obtain ⟨r55, e_r55, hf⟩ := fh_b hf
    refine fh_callV (As := [.int a2]) (rest := [.long (2 * x53), va_rf (some o)]) S fT_good hE hI e_o54 rfl (c_Mo_py e_r55) fy_Mo_py fst_Mo_py k_144 ⟨rfl, rfl⟩ ⟨Nat.le_of_ble_eq_true rfl, Nat.le_of_ble_eq_true rfl⟩ ⟨Nat.zero_le _, Nat.zero_le _⟩ rfl hl.1 rfl (Nat.le_of_ble_eq_true rfl) d_Mo_doStep_250 (fun H locs hI => ?_)
    refine lv_lsub hx hb d_Mo_doStep_253 ?_
    obtain ⟨r56, e_r56, hf⟩ := fh_b hf
    refine fh_callS (As := [.long ((2 * x53) - r55.1)]) (rest := [va_rf (some o)]) S fT_good hE hI (c_Mo_mod e_r56) fy_Mo_mod fst_Mo_mod k_135 ⟨rfl, rfl⟩ ⟨Nat.le_of_ble_eq_true rfl, Nat.le_of_ble_eq_true rfl⟩ ⟨Nat.zero_le _, Nat.zero_le _⟩ rfl hl.1 rfl (Nat.le_of_ble_eq_true rfl) d_Mo_doStep_254 (fun H locs hI => ?_)
    obtain ⟨h57, e_h57, hf⟩ := fh_b hf
    refine fh_putv S hE.1 hI e_h57 (hc := rfl) (hin := in_6) tok_6 nok_6 (by decide) (hts _ k_146) rfl rfl rfl d_Mo_doStep_257 (fun H locs hI => ?_)
    refine lv_goto (tgt := 274) hx hb d_Mo_doStep_260 (by decide) ?_
    obtain rfl := Option.some.inj hf
    exact fh_vret S hr hk hAe hI d_Mo_doStep_274
  replace hf := fh_f c_1_6 hf
  have c_1 : a1.toInt < 0 ∨ 6 < a1.toInt := by
    have q0 : a1.toInt ≠ 0 := fun q => c_1_0 (Int32.toInt_inj.mp (q.trans (by decide)))
    have q1 : a1.toInt ≠ 1 := fun q => c_1_1 (Int32.toInt_inj.mp (q.trans (by decide)))
    have q2 : a1.toInt ≠ 2 := fun q => c_1_2 (Int32.toInt_inj.mp (q.trans (by decide)))
    have q3 : a1.toInt ≠ 3 := fun q => c_1_3 (Int32.toInt_inj.mp (q.trans (by decide)))
    have q4 : a1.toInt ≠ 4 := fun q => c_1_4 (Int32.toInt_inj.mp (q.trans (by decide)))
    have q5 : a1.toInt ≠ 5 := fun q => c_1_5 (Int32.toInt_inj.mp (q.trans (by decide)))
    have q6 : a1.toInt ≠ 6 := fun q => c_1_6 (Int32.toInt_inj.mp (q.trans (by decide)))
    omega
  refine lv_tableOut (tgt := 263) hx hb d_Mo_doStep_1 c_1 (by decide) ?_
  refine fh_aload_n S d_Mo_doStep_263 rfl (lv_at hl 0 rfl) ?_
  refine lv_iload_n hx hb d_Mo_doStep_264 rfl (lv_at hl 1 rfl) ?_
  refine lv_iload_n hx hb d_Mo_doStep_265 rfl (lv_at hl 2 rfl) ?_
  refine lv_iload_n hx hb d_Mo_doStep_266 rfl (lv_at hl 3 rfl) ?_
  refine lv_iload hx hb d_Mo_doStep_267 (lv_at hl 4 rfl) ?_
  refine lv_iload hx hb d_Mo_doStep_269 (lv_at hl 5 rfl) ?_
  obtain ⟨o1, e_o1, hf⟩ := fh_b hf
  obtain ⟨r2, e_r2, hf⟩ := fh_b hf
  refine fh_callV (As := [.int a1, .int a2, .int a3, .int a4, .int a5]) (rest := []) S fT_good hE hI e_o1 rfl (c_Mo_doMore e_r2) fy_Mo_doMore fst_Mo_doMore k_160 ⟨rfl, rfl⟩ ⟨Nat.le_of_ble_eq_true rfl, Nat.le_of_ble_eq_true rfl⟩ ⟨Nat.zero_le _, Nat.zero_le _⟩ rfl hl.1 rfl (Nat.le_of_ble_eq_true rfl) d_Mo_doStep_271 (fun H locs hI => ?_)
  obtain rfl := Option.some.inj hf
  exact fh_vret S hr hk hAe hI d_Mo_doStep_274
theorem d_Mo_drawFigure_0 : decode c0_Mo_drawFigure 0 = .ok (.aload_n 0, 1) := by decide +kernel
theorem d_Mo_drawFigure_1 : decode c0_Mo_drawFigure 1 = .ok (.iload_n 1, 1) := by decide +kernel
theorem d_Mo_drawFigure_2 : decode c0_Mo_drawFigure 2 = .ok (.putfield 65, 3) := by decide +kernel
theorem d_Mo_drawFigure_5 : decode c0_Mo_drawFigure 5 = .ok (.aload_n 0, 1) := by decide +kernel
theorem d_Mo_drawFigure_6 : decode c0_Mo_drawFigure 6 = .ok (.aload_n 0, 1) := by decide +kernel
theorem d_Mo_drawFigure_7 : decode c0_Mo_drawFigure 7 = .ok (.getfield 16, 3) := by decide +kernel
theorem d_Mo_drawFigure_10 : decode c0_Mo_drawFigure 10 = .ok (.i2l, 1) := by decide +kernel
theorem d_Mo_drawFigure_11 : decode c0_Mo_drawFigure 11 = .ok (.ldc2_w 129, 3) := by decide +kernel
theorem d_Mo_drawFigure_14 : decode c0_Mo_drawFigure 14 = .ok (.iload_n 1, 1) := by decide +kernel
theorem d_Mo_drawFigure_15 : decode c0_Mo_drawFigure 15 = .ok (.i2l, 1) := by decide +kernel
theorem d_Mo_drawFigure_16 : decode c0_Mo_drawFigure 16 = .ok (.lmul, 1) := by decide +kernel
theorem d_Mo_drawFigure_17 : decode c0_Mo_drawFigure 17 = .ok (.ladd, 1) := by decide +kernel
theorem d_Mo_drawFigure_18 : decode c0_Mo_drawFigure 18 = .ok (.putfield 57, 3) := by decide +kernel
theorem d_Mo_drawFigure_21 : decode c0_Mo_drawFigure 21 = .ok (.aload_n 0, 1) := by decide +kernel
theorem d_Mo_drawFigure_22 : decode c0_Mo_drawFigure 22 = .ok (.getfield 30, 3) := by decide +kernel
theorem d_Mo_drawFigure_25 : decode c0_Mo_drawFigure 25 = .ok (.iload_n 1, 1) := by decide +kernel
theorem d_Mo_drawFigure_26 : decode c0_Mo_drawFigure 26 = .ok (.iconst (-1), 1) := by decide +kernel
theorem d_Mo_drawFigure_27 : decode c0_Mo_drawFigure 27 = .ok (.iastore, 1) := by decide +kernel
theorem d_Mo_drawFigure_28 : decode c0_Mo_drawFigure 28 = .ok (.iconst 0, 1) := by decide +kernel
theorem d_Mo_drawFigure_29 : decode c0_Mo_drawFigure 29 = .ok (.istore_n 2, 1) := by decide +kernel
theorem d_Mo_drawFigure_30 : decode c0_Mo_drawFigure 30 = .ok (.iload_n 2, 1) := by decide +kernel
theorem d_Mo_drawFigure_31 : decode c0_Mo_drawFigure 31 = .ok (.aload_n 0, 1) := by decide +kernel
theorem d_Mo_drawFigure_32 : decode c0_Mo_drawFigure 32 = .ok (.getfield 131, 3) := by decide +kernel
theorem d_Mo_drawFigure_35 : decode c0_Mo_drawFigure 35 = .ok (.if_icmp .ge 120, 3) := by decide +kernel
theorem d_Mo_drawFigure_38 : decode c0_Mo_drawFigure 38 = .ok (.aload_n 0, 1) := by decide +kernel
theorem d_Mo_drawFigure_39 : decode c0_Mo_drawFigure 39 = .ok (.getfield 30, 3) := by decide +kernel
theorem d_Mo_drawFigure_42 : decode c0_Mo_drawFigure 42 = .ok (.iload_n 1, 1) := by decide +kernel
theorem d_Mo_drawFigure_43 : decode c0_Mo_drawFigure 43 = .ok (.iaload, 1) := by decide +kernel
theorem d_Mo_drawFigure_44 : decode c0_Mo_drawFigure 44 = .ok (.iconst (-1), 1) := by decide +kernel
theorem d_Mo_drawFigure_45 : decode c0_Mo_drawFigure 45 = .ok (.if_icmp .ne 110, 3) := by decide +kernel
theorem d_Mo_drawFigure_48 : decode c0_Mo_drawFigure 48 = .ok (.aload_n 0, 1) := by decide +kernel
theorem d_Mo_drawFigure_49 : decode c0_Mo_drawFigure 49 = .ok (.iconst 0, 1) := by decide +kernel
theorem d_Mo_drawFigure_50 : decode c0_Mo_drawFigure 50 = .ok (.putfield 85, 3) := by decide +kernel
theorem d_Mo_drawFigure_53 : decode c0_Mo_drawFigure 53 = .ok (.aload_n 0, 1) := by decide +kernel
theorem d_Mo_drawFigure_54 : decode c0_Mo_drawFigure 54 = .ok (.aload_n 0, 1) := by decide +kernel
theorem d_Mo_drawFigure_55 : decode c0_Mo_drawFigure 55 = .ok (.getfield 7, 3) := by decide +kernel
theorem d_Mo_drawFigure_58 : decode c0_Mo_drawFigure 58 = .ok (.iload_n 2, 1) := by decide +kernel
theorem d_Mo_drawFigure_59 : decode c0_Mo_drawFigure 59 = .ok (.iaload, 1) := by decide +kernel
theorem d_Mo_drawFigure_60 : decode c0_Mo_drawFigure 60 = .ok (.aload_n 0, 1) := by decide +kernel
theorem d_Mo_drawFigure_61 : decode c0_Mo_drawFigure 61 = .ok (.getfield 13, 3) := by decide +kernel
theorem d_Mo_drawFigure_64 : decode c0_Mo_drawFigure 64 = .ok (.iconst 4, 1) := by decide +kernel
theorem d_Mo_drawFigure_65 : decode c0_Mo_drawFigure 65 = .ok (.iload_n 2, 1) := by decide +kernel
theorem d_Mo_drawFigure_66 : decode c0_Mo_drawFigure 66 = .ok (.imul, 1) := by decide +kernel
theorem d_Mo_drawFigure_67 : decode c0_Mo_drawFigure 67 = .ok (.iaload, 1) := by decide +kernel
theorem d_Mo_drawFigure_68 : decode c0_Mo_drawFigure 68 = .ok (.aload_n 0, 1) := by decide +kernel
theorem d_Mo_drawFigure_69 : decode c0_Mo_drawFigure 69 = .ok (.getfield 13, 3) := by decide +kernel
theorem d_Mo_drawFigure_72 : decode c0_Mo_drawFigure 72 = .ok (.iconst 4, 1) := by decide +kernel
theorem d_Mo_drawFigure_73 : decode c0_Mo_drawFigure 73 = .ok (.iload_n 2, 1) := by decide +kernel
theorem d_Mo_drawFigure_74 : decode c0_Mo_drawFigure 74 = .ok (.imul, 1) := by decide +kernel
theorem d_Mo_drawFigure_75 : decode c0_Mo_drawFigure 75 = .ok (.iconst 1, 1) := by decide +kernel
theorem d_Mo_drawFigure_76 : decode c0_Mo_drawFigure 76 = .ok (.iadd, 1) := by decide +kernel
theorem d_Mo_drawFigure_77 : decode c0_Mo_drawFigure 77 = .ok (.iaload, 1) := by decide +kernel
theorem d_Mo_drawFigure_78 : decode c0_Mo_drawFigure 78 = .ok (.aload_n 0, 1) := by decide +kernel
theorem d_Mo_drawFigure_79 : decode c0_Mo_drawFigure 79 = .ok (.getfield 13, 3) := by decide +kernel
theorem d_Mo_drawFigure_82 : decode c0_Mo_drawFigure 82 = .ok (.iconst 4, 1) := by decide +kernel
theorem d_Mo_drawFigure_83 : decode c0_Mo_drawFigure 83 = .ok (.iload_n 2, 1) := by decide +kernel
theorem d_Mo_drawFigure_84 : decode c0_Mo_drawFigure 84 = .ok (.imul, 1) := by decide +kernel
theorem d_Mo_drawFigure_85 : decode c0_Mo_drawFigure 85 = .ok (.iconst 2, 1) := by decide +kernel
theorem d_Mo_drawFigure_86 : decode c0_Mo_drawFigure 86 = .ok (.iadd, 1) := by decide +kernel
theorem d_Mo_drawFigure_87 : decode c0_Mo_drawFigure 87 = .ok (.iaload, 1) := by decide +kernel
theorem d_Mo_drawFigure_88 : decode c0_Mo_drawFigure 88 = .ok (.aload_n 0, 1) := by decide +kernel
theorem d_Mo_drawFigure_89 : decode c0_Mo_drawFigure 89 = .ok (.getfield 13, 3) := by decide +kernel
theorem d_Mo_drawFigure_92 : decode c0_Mo_drawFigure 92 = .ok (.iconst 4, 1) := by decide +kernel
theorem d_Mo_drawFigure_93 : decode c0_Mo_drawFigure 93 = .ok (.iload_n 2, 1) := by decide +kernel
theorem d_Mo_drawFigure_94 : decode c0_Mo_drawFigure 94 = .ok (.imul, 1) := by decide +kernel
theorem d_Mo_drawFigure_95 : decode c0_Mo_drawFigure 95 = .ok (.iconst 3, 1) := by decide +kernel
theorem d_Mo_drawFigure_96 : decode c0_Mo_drawFigure 96 = .ok (.iadd, 1) := by decide +kernel
theorem d_Mo_drawFigure_97 : decode c0_Mo_drawFigure 97 = .ok (.iaload, 1) := by decide +kernel
theorem d_Mo_drawFigure_98 : decode c0_Mo_drawFigure 98 = .ok (.invokevirtual 134, 3) := by decide +kernel
theorem d_Mo_drawFigure_101 : decode c0_Mo_drawFigure 101 = .ok (.aload_n 0, 1) := by decide +kernel
theorem d_Mo_drawFigure_102 : decode c0_Mo_drawFigure 102 = .ok (.getfield 23, 3) := by decide +kernel
theorem d_Mo_drawFigure_105 : decode c0_Mo_drawFigure 105 = .ok (.bipush 10, 2) := by decide +kernel
theorem d_Mo_drawFigure_107 : decode c0_Mo_drawFigure 107 = .ok (.iload_n 1, 1) := by decide +kernel
theorem d_Mo_drawFigure_108 : decode c0_Mo_drawFigure 108 = .ok (.imul, 1) := by decide +kernel
theorem d_Mo_drawFigure_109 : decode c0_Mo_drawFigure 109 = .ok (.iload_n 2, 1) := by decide +kernel
theorem d_Mo_drawFigure_110 : decode c0_Mo_drawFigure 110 = .ok (.iadd, 1) := by decide +kernel
theorem d_Mo_drawFigure_111 : decode c0_Mo_drawFigure 111 = .ok (.aload_n 0, 1) := by decide +kernel
theorem d_Mo_drawFigure_112 : decode c0_Mo_drawFigure 112 = .ok (.getfield 75, 3) := by decide +kernel
theorem d_Mo_drawFigure_115 : decode c0_Mo_drawFigure 115 = .ok (.lastore, 1) := by decide +kernel
theorem d_Mo_drawFigure_116 : decode c0_Mo_drawFigure 116 = .ok (.aload_n 0, 1) := by decide +kernel
theorem d_Mo_drawFigure_117 : decode c0_Mo_drawFigure 117 = .ok (.getfield 27, 3) := by decide +kernel
theorem d_Mo_drawFigure_120 : decode c0_Mo_drawFigure 120 = .ok (.bipush 10, 2) := by decide +kernel
theorem d_Mo_drawFigure_122 : decode c0_Mo_drawFigure 122 = .ok (.iload_n 1, 1) := by decide +kernel
theorem d_Mo_drawFigure_123 : decode c0_Mo_drawFigure 123 = .ok (.imul, 1) := by decide +kernel
theorem d_Mo_drawFigure_124 : decode c0_Mo_drawFigure 124 = .ok (.iload_n 2, 1) := by decide +kernel
theorem d_Mo_drawFigure_125 : decode c0_Mo_drawFigure 125 = .ok (.iadd, 1) := by decide +kernel
theorem d_Mo_drawFigure_126 : decode c0_Mo_drawFigure 126 = .ok (.aload_n 0, 1) := by decide +kernel
theorem d_Mo_drawFigure_127 : decode c0_Mo_drawFigure 127 = .ok (.getfield 78, 3) := by decide +kernel
theorem d_Mo_drawFigure_130 : decode c0_Mo_drawFigure 130 = .ok (.lastore, 1) := by decide +kernel
theorem d_Mo_drawFigure_131 : decode c0_Mo_drawFigure 131 = .ok (.aload_n 0, 1) := by decide +kernel
theorem d_Mo_drawFigure_132 : decode c0_Mo_drawFigure 132 = .ok (.getfield 30, 3) := by decide +kernel
theorem d_Mo_drawFigure_135 : decode c0_Mo_drawFigure 135 = .ok (.iload_n 1, 1) := by decide +kernel
theorem d_Mo_drawFigure_136 : decode c0_Mo_drawFigure 136 = .ok (.aload_n 0, 1) := by decide +kernel
theorem d_Mo_drawFigure_137 : decode c0_Mo_drawFigure 137 = .ok (.getfield 85, 3) := by decide +kernel
theorem d_Mo_drawFigure_140 : decode c0_Mo_drawFigure 140 = .ok (.ifCond .eq 7, 3) := by decide +kernel
theorem d_Mo_drawFigure_143 : decode c0_Mo_drawFigure 143 = .ok (.iload_n 2, 1) := by decide +kernel
theorem d_Mo_drawFigure_144 : decode c0_Mo_drawFigure 144 = .ok (.goto 4, 3) := by decide +kernel
theorem d_Mo_drawFigure_147 : decode c0_Mo_drawFigure 147 = .ok (.iconst (-1), 1) := by decide +kernel
theorem d_Mo_drawFigure_148 : decode c0_Mo_drawFigure 148 = .ok (.iastore, 1) := by decide +kernel
theorem d_Mo_drawFigure_149 : decode c0_Mo_drawFigure 149 = .ok (.iinc 2 1, 3) := by decide +kernel
theorem d_Mo_drawFigure_152 : decode c0_Mo_drawFigure 152 = .ok (.goto (-122), 3) := by decide +kernel
theorem d_Mo_drawFigure_155 : decode c0_Mo_drawFigure 155 = .ok (.return_, 1) := by decide +kernel
def b_Mo_drawFigure_148 (K : Nat → ClassId) (N : Nat) (k30 : Int32 → Int32 → fh_H → Option (fh_H)) (o : Nat) (v1 : Int32) (v2 : Int32) (w0 : Option Nat) (w1 : Int32) (w2 : Int32) (h : fh_H) : Option (fh_H) :=
  (fs_i (K 0) h w0 w1 w2).bind fun h1 => (some (v2 + 1)).bind fun x2 => k30 v1 x2 h1
def b_Mo_drawFigure_30 (K : Nat → ClassId) (N : Nat) (k30 : Int32 → Int32 → fh_H → Option (fh_H)) (o : Nat) (v1 : Int32) (v2 : Int32) (h : fh_H) : Option (fh_H) :=
  (fg_i h (some o) 6 0).bind fun x1 => if x1 ≤ v2 then (some h) else ((fg_a h (some o) 6 7).bind fun x2 => (fa_i (K 0) h x2 v1).bind fun x3 => if x3 = (-1) then ((fp_z h (some o) 6 12 0).bind fun h4 => (fg_a h4 (some o) 6 1).bind fun x5 => (fa_i (K 0) h4 x5 v2).bind fun x6 => (fg_a h4 (some o) 6 2).bind fun x7 => (fa_i (K 0) h4 x7 (4 * v2)).bind fun x8 => (fg_a h4 (some o) 6 2).bind fun x9 => (fa_i (K 0) h4 x9 ((4 * v2) + 1)).bind fun x10 => (fg_a h4 (some o) 6 2).bind fun x11 => (fa_i (K 0) h4 x11 ((4 * v2) + 2)).bind fun x12 => (fg_a h4 (some o) 6 2).bind fun x13 => (fa_i (K 0) h4 x13 ((4 * v2) + 3)).bind fun x14 => (fg_o h4 (some o) 6).bind fun o15 => (f_Mo_doStep K N o15 x6 x8 x10 x12 x14 h4).bind fun r16 => (fg_a r16 (some o) 6 5).bind fun x17 => (fg_l r16 (some o) 6 10).bind fun x18 => (fs_l (K 1) r16 x17 ((10 * v1) + v2) x18).bind fun h19 => (fg_a h19 (some o) 6 6).bind fun x20 => (fg_l h19 (some o) 6 11).bind fun x21 => (fs_l (K 1) h19 x20 ((10 * v1) + v2) x21).bind fun h22 => (fg_a h22 (some o) 6 7).bind fun x23 => (fg_i h22 (some o) 6 12).bind fun x24 => if x24 = 0 then (b_Mo_drawFigure_148 K N k30 o v1 v2 x23 v1 (-1) h22) else (b_Mo_drawFigure_148 K N k30 o v1 v2 x23 v1 v2 h22)) else (some h))
def l_Mo_drawFigure_30 (K : Nat → ClassId) (N : Nat) (o : Nat) : Nat → Int32 → Int32 → fh_H → Option (fh_H)
  | 0, _, _, _ => none
  | n + 1, v1, v2, h => b_Mo_drawFigure_30 K N (l_Mo_drawFigure_30 K N o n) o v1 v2 h
def f_Mo_drawFigure (K : Nat → ClassId) (N : Nat) (o : Nat) (a1 : Int32) (h0 : fh_H) : Option (fh_H) :=
  (fp_v h0 (some o) 6 8 (.int a1)).bind fun h1 => (fg_i h1 (some o) 6 3).bind fun x2 => (fp_v h1 (some o) 6 9 (.long (x2.toInt64 + (1000 * a1.toInt64)))).bind fun h3 => (fg_a h3 (some o) 6 7).bind fun x4 => (fs_i (K 0) h3 x4 a1 (-1)).bind fun h5 => l_Mo_drawFigure_30 K N o N a1 0 h5
set_option maxHeartbeats 4000000 in
set_option maxRecDepth 100000 in
theorem c_Mo_drawFigure {l : Launch} {D : va_G} {K : Nat → ClassId} {t : Nat → Nat} {N : Nat} {o : Nat} {a1 : Int32} {h0 : fh_H} {res : fh_H} (hf : f_Mo_drawFigure K N o a1 h0 = some res) : fC l D K t y_Mo_drawFigure c0_Mo_drawFigure 3 none rm_Mo_drawFigure [.ref o, .int a1] h0 (none) res := by
  refine fh_body (by decide) (Nat.le_of_ble_eq_true rfl) ?_
  intro p e s m below meth c A ls S hr hk hnm hE hAe hI hl
  obtain ⟨hx, hb, hml, hown, hts⟩ := id S
  have hl : lv_has ls 3 [(0, va_rf (some o)), (1, .int a1)] := hl
  have L30 : ∀ (n30 : Nat) (v1 : Int32) (v2 : Int32) (h : fh_H) (H : Heap) (locs : List Loc) (ls : Array Slot), lv_has ls 3 [(0, va_rf (some o)), (1, .int v1), (2, .int v2)] → fh_I D classes A s.heap h H locs → l_Mo_drawFigure_30 K N o n30 v1 v2 h = some res → W p l e rm_Mo_drawFigure s m [.ref o, .int a1].toArray below meth c H locs 0 0 (MQ below (fh_Q D classes h0 s.heap.size (none) res) [.ref o, .int a1].toArray s 0 0 A) (F0 m 30 ls []) := by
    intro n30
    induction n30 with
    | zero =>
      intro v1 v2 h H locs ls hl hI hf
      exact fh_no hf
    | succ n30 ih30 =>
      have B148 : ∀ (v1 : Int32) (v2 : Int32) (w0 : Option Nat) (w1 : Int32) (w2 : Int32) (h : fh_H) (H : Heap) (locs : List Loc) (ls : Array Slot), lv_has ls 3 [(0, va_rf (some o)), (1, .int v1), (2, .int v2)] → fh_I D classes A s.heap h H locs → b_Mo_drawFigure_148 K N (l_Mo_drawFigure_30 K N o n30) o v1 v2 w0 w1 w2 h = some res → W p l e rm_Mo_drawFigure s m [.ref o, .int a1].toArray below meth c H locs 0 0 (MQ below (fh_Q D classes h0 s.heap.size (none) res) [.ref o, .int a1].toArray s 0 0 A) (F0 m 148 ls [.int w2, .int w1, va_rf w0]) := by
        intro v1 v2 w0 w1 w2 h H locs ls hl hI hf
        unfold b_Mo_drawFigure_148 at hf
        obtain ⟨h1, e_h1, hf⟩ := fh_b hf
        refine fh_iast S hE.1 hI 0 rfl e_h1 d_Mo_drawFigure_148 (fun H locs hI => ?_)
        obtain ⟨x2, e_x2, hf⟩ := fh_b hf
        refine lv_iinc (v := x2) (lv' := [(2, .int x2), (0, va_rf (some o)), (1, .int v1)]) hx hb d_Mo_drawFigure_149 hl (k := 2) rfl (by rw [fh_qe e_x2]; rfl) (by decide) rfl (fun ls hl => ?_)
        refine lv_goto (tgt := 30) hx hb d_Mo_drawFigure_152 (by decide) ?_
        exact ih30 v1 x2 h1 _ _ _ (lv_sub hl [1, 2, 0] rfl) hI hf
      intro v1 v2 h H locs ls hl hI hf
      have hf : b_Mo_drawFigure_30 K N (l_Mo_drawFigure_30 K N o n30) o v1 v2 h = some res := hf
      unfold b_Mo_drawFigure_30 at hf
      refine lv_iload_n hx hb d_Mo_drawFigure_30 rfl (lv_at hl 2 rfl) ?_
      refine fh_aload_n S d_Mo_drawFigure_31 rfl (lv_at hl 0 rfl) ?_
      obtain ⟨x1, e_x1, hf⟩ := fh_b hf
      refine fh_geti S hE.1 hI e_x1 (hc := rfl) (hin := in_6) (by decide) (hts _ k_163) d_Mo_drawFigure_32 ?_
      refine lv_icmp_ge (tgt := 155) hx hb d_Mo_drawFigure_35 (by decide) (fun c_35 => ?_) (fun c_35 => ?_)
      · replace hf := fh_t c_35 hf
        obtain rfl := Option.some.inj hf
        exact fh_vret S hr hk hAe hI d_Mo_drawFigure_155
      · replace hf := fh_f c_35 hf
        refine fh_aload_n S d_Mo_drawFigure_38 rfl (lv_at hl 0 rfl) ?_
        obtain ⟨x2, e_x2, hf⟩ := fh_b hf
        refine fh_geta S hE.1 hI e_x2 (hc := rfl) (hin := in_6) (by decide) (hts _ k_162) d_Mo_drawFigure_39 ?_
        refine lv_iload_n hx hb d_Mo_drawFigure_42 rfl (lv_at hl 1 rfl) ?_
        obtain ⟨x3, e_x3, hf⟩ := fh_b hf
        refine fh_iald S hE.1 hI 0 rfl e_x3 d_Mo_drawFigure_43 ?_
        refine lv_iconst (v := (-1)) hx hb d_Mo_drawFigure_44 (by decide) ?_
        refine lv_icmp_ne (tgt := 155) hx hb d_Mo_drawFigure_45 (by decide) (fun c_45 => ?_) (fun c_45 => ?_)
        · replace hf := fh_f c_45 hf
          obtain rfl := Option.some.inj hf
          exact fh_vret S hr hk hAe hI d_Mo_drawFigure_155
        · replace hf := fh_t c_45 hf
          refine fh_aload_n S d_Mo_drawFigure_48 rfl (lv_at hl 0 rfl) ?_
          refine lv_iconst (v := 0) hx hb d_Mo_drawFigure_49 (by decide) ?_
          obtain ⟨h4, e_h4, hf⟩ := fh_b hf
          refine fh_putz S hE.1 hI e_h4 (hc := rfl) (hin := in_6) tok_6 nok_6 (by decide) (hts _ k_150) rfl rfl d_Mo_drawFigure_50 (fun H locs hI => ?_)
          refine fh_aload_n S d_Mo_drawFigure_53 rfl (lv_at hl 0 rfl) ?_
          refine fh_aload_n S d_Mo_drawFigure_54 rfl (lv_at hl 0 rfl) ?_
          obtain ⟨x5, e_x5, hf⟩ := fh_b hf
          refine fh_geta S hE.1 hI e_x5 (hc := rfl) (hin := in_6) (by decide) (hts _ k_164) d_Mo_drawFigure_55 ?_
          refine lv_iload_n hx hb d_Mo_drawFigure_58 rfl (lv_at hl 2 rfl) ?_
          obtain ⟨x6, e_x6, hf⟩ := fh_b hf
          refine fh_iald S hE.1 hI 0 rfl e_x6 d_Mo_drawFigure_59 ?_
          refine fh_aload_n S d_Mo_drawFigure_60 rfl (lv_at hl 0 rfl) ?_
          obtain ⟨x7, e_x7, hf⟩ := fh_b hf
          refine fh_geta S hE.1 hI e_x7 (hc := rfl) (hin := in_6) (by decide) (hts _ k_165) d_Mo_drawFigure_61 ?_
          refine lv_iconst (v := 4) hx hb d_Mo_drawFigure_64 (by decide) ?_
          refine lv_iload_n hx hb d_Mo_drawFigure_65 rfl (lv_at hl 2 rfl) ?_
          refine lv_imul hx hb d_Mo_drawFigure_66 ?_
          obtain ⟨x8, e_x8, hf⟩ := fh_b hf
          refine fh_iald S hE.1 hI 0 rfl e_x8 d_Mo_drawFigure_67 ?_
          refine fh_aload_n S d_Mo_drawFigure_68 rfl (lv_at hl 0 rfl) ?_
          obtain ⟨x9, e_x9, hf⟩ := fh_b hf
          refine fh_geta S hE.1 hI e_x9 (hc := rfl) (hin := in_6) (by decide) (hts _ k_165) d_Mo_drawFigure_69 ?_
          refine lv_iconst (v := 4) hx hb d_Mo_drawFigure_72 (by decide) ?_
          refine lv_iload_n hx hb d_Mo_drawFigure_73 rfl (lv_at hl 2 rfl) ?_
          refine lv_imul hx hb d_Mo_drawFigure_74 ?_
          refine lv_iconst (v := 1) hx hb d_Mo_drawFigure_75 (by decide) ?_
          refine lv_iadd hx hb d_Mo_drawFigure_76 ?_
          obtain ⟨x10, e_x10, hf⟩ := fh_b hf
          refine fh_iald S hE.1 hI 0 rfl e_x10 d_Mo_drawFigure_77 ?_
          refine fh_aload_n S d_Mo_drawFigure_78 rfl (lv_at hl 0 rfl) ?_
          obtain ⟨x11, e_x11, hf⟩ := fh_b hf
          refine fh_geta S hE.1 hI e_x11 (hc := rfl) (hin := in_6) (by decide) (hts _ k_165) d_Mo_drawFigure_79 ?_
          refine lv_iconst (v := 4) hx hb d_Mo_drawFigure_82 (by decide) ?_
          refine lv_iload_n hx hb d_Mo_drawFigure_83 rfl (lv_at hl 2 rfl) ?_
          refine lv_imul hx hb d_Mo_drawFigure_84 ?_
          refine lv_iconst (v := 2) hx hb d_Mo_drawFigure_85 (by decide) ?_
          refine lv_iadd hx hb d_Mo_drawFigure_86 ?_
          obtain ⟨x12, e_x12, hf⟩ := fh_b hf
          refine fh_iald S hE.1 hI 0 rfl e_x12 d_Mo_drawFigure_87 ?_
          refine fh_aload_n S d_Mo_drawFigure_88 rfl (lv_at hl 0 rfl) ?_
          obtain ⟨x13, e_x13, hf⟩ := fh_b hf
          refine fh_geta S hE.1 hI e_x13 (hc := rfl) (hin := in_6) (by decide) (hts _ k_165) d_Mo_drawFigure_89 ?_
          refine lv_iconst (v := 4) hx hb d_Mo_drawFigure_92 (by decide) ?_
          refine lv_iload_n hx hb d_Mo_drawFigure_93 rfl (lv_at hl 2 rfl) ?_
          refine lv_imul hx hb d_Mo_drawFigure_94 ?_
          refine lv_iconst (v := 3) hx hb d_Mo_drawFigure_95 (by decide) ?_
          refine lv_iadd hx hb d_Mo_drawFigure_96 ?_
          obtain ⟨x14, e_x14, hf⟩ := fh_b hf
          refine fh_iald S hE.1 hI 0 rfl e_x14 d_Mo_drawFigure_97 ?_
          obtain ⟨o15, e_o15, hf⟩ := fh_b hf
          obtain ⟨r16, e_r16, hf⟩ := fh_b hf
          refine fh_callV (As := [.int x6, .int x8, .int x10, .int x12, .int x14]) (rest := []) S fT_good hE hI e_o15 rfl (c_Mo_doStep e_r16) fy_Mo_doStep fst_Mo_doStep k_166 ⟨rfl, rfl⟩ ⟨Nat.le_of_ble_eq_true rfl, Nat.le_of_ble_eq_true rfl⟩ ⟨Nat.zero_le _, Nat.zero_le _⟩ rfl hl.1 rfl (Nat.le_of_ble_eq_true rfl) d_Mo_drawFigure_98 (fun H locs hI => ?_)
          refine fh_aload_n S d_Mo_drawFigure_101 rfl (lv_at hl 0 rfl) ?_
          obtain ⟨x17, e_x17, hf⟩ := fh_b hf
          refine fh_geta S hE.1 hI e_x17 (hc := rfl) (hin := in_6) (by decide) (hts _ k_140) d_Mo_drawFigure_102 ?_
          refine lv_bipush (v := 10) hx hb d_Mo_drawFigure_105 (by decide) ?_
          refine lv_iload_n hx hb d_Mo_drawFigure_107 rfl (lv_at hl 1 rfl) ?_
          refine lv_imul hx hb d_Mo_drawFigure_108 ?_
          refine lv_iload_n hx hb d_Mo_drawFigure_109 rfl (lv_at hl 2 rfl) ?_
          refine lv_iadd hx hb d_Mo_drawFigure_110 ?_
          refine fh_aload_n S d_Mo_drawFigure_111 rfl (lv_at hl 0 rfl) ?_
          obtain ⟨x18, e_x18, hf⟩ := fh_b hf
          refine fh_getl S hE.1 hI e_x18 (hc := rfl) (hin := in_6) (by decide) (hts _ k_145) d_Mo_drawFigure_112 ?_
          obtain ⟨h19, e_h19, hf⟩ := fh_b hf
          refine fh_last S hE.1 hI 1 rfl e_h19 d_Mo_drawFigure_115 (fun H locs hI => ?_)
          refine fh_aload_n S d_Mo_drawFigure_116 rfl (lv_at hl 0 rfl) ?_
          obtain ⟨x20, e_x20, hf⟩ := fh_b hf
          refine fh_geta S hE.1 hI e_x20 (hc := rfl) (hin := in_6) (by decide) (hts _ k_142) d_Mo_drawFigure_117 ?_
          refine lv_bipush (v := 10) hx hb d_Mo_drawFigure_120 (by decide) ?_
          refine lv_iload_n hx hb d_Mo_drawFigure_122 rfl (lv_at hl 1 rfl) ?_
          refine lv_imul hx hb d_Mo_drawFigure_123 ?_
          refine lv_iload_n hx hb d_Mo_drawFigure_124 rfl (lv_at hl 2 rfl) ?_
          refine lv_iadd hx hb d_Mo_drawFigure_125 ?_
          refine fh_aload_n S d_Mo_drawFigure_126 rfl (lv_at hl 0 rfl) ?_
          obtain ⟨x21, e_x21, hf⟩ := fh_b hf
          refine fh_getl S hE.1 hI e_x21 (hc := rfl) (hin := in_6) (by decide) (hts _ k_146) d_Mo_drawFigure_127 ?_
          obtain ⟨h22, e_h22, hf⟩ := fh_b hf
          refine fh_last S hE.1 hI 1 rfl e_h22 d_Mo_drawFigure_130 (fun H locs hI => ?_)
          refine fh_aload_n S d_Mo_drawFigure_131 rfl (lv_at hl 0 rfl) ?_
          obtain ⟨x23, e_x23, hf⟩ := fh_b hf
          refine fh_geta S hE.1 hI e_x23 (hc := rfl) (hin := in_6) (by decide) (hts _ k_162) d_Mo_drawFigure_132 ?_
          refine lv_iload_n hx hb d_Mo_drawFigure_135 rfl (lv_at hl 1 rfl) ?_
          refine fh_aload_n S d_Mo_drawFigure_136 rfl (lv_at hl 0 rfl) ?_
          obtain ⟨x24, e_x24, hf⟩ := fh_b hf
          refine fh_geti S hE.1 hI e_x24 (hc := rfl) (hin := in_6) (by decide) (hts _ k_150) d_Mo_drawFigure_137 ?_
          refine lv_if_eq (tgt := 147) hx hb d_Mo_drawFigure_140 (by decide) (fun c_140 => ?_) (fun c_140 => ?_)
          · replace hf := fh_t c_140 hf
            refine lv_iconst (v := (-1)) hx hb d_Mo_drawFigure_147 (by decide) ?_
            exact B148 v1 v2 x23 v1 (-1) h22 _ _ _ (lv_sub hl [0, 1, 2] rfl) hI hf
          · replace hf := fh_f c_140 hf
            refine lv_iload_n hx hb d_Mo_drawFigure_143 rfl (lv_at hl 2 rfl) ?_
            refine lv_goto (tgt := 148) hx hb d_Mo_drawFigure_144 (by decide) ?_
            exact B148 v1 v2 x23 v1 v2 h22 _ _ _ (lv_sub hl [0, 1, 2] rfl) hI hf
  unfold f_Mo_drawFigure at hf
  refine fh_aload_n S d_Mo_drawFigure_0 rfl (lv_at hl 0 rfl) ?_
  refine lv_iload_n hx hb d_Mo_drawFigure_1 rfl (lv_at hl 1 rfl) ?_
  obtain ⟨h1, e_h1, hf⟩ := fh_b hf
  refine fh_putv S hE.1 hI e_h1 (hc := rfl) (hin := in_6) tok_6 nok_6 (by decide) (hts _ k_141) rfl rfl rfl d_Mo_drawFigure_2 (fun H locs hI => ?_)
  refine fh_aload_n S d_Mo_drawFigure_5 rfl (lv_at hl 0 rfl) ?_
  refine fh_aload_n S d_Mo_drawFigure_6 rfl (lv_at hl 0 rfl) ?_
  obtain ⟨x2, e_x2, hf⟩ := fh_b hf
  refine fh_geti S hE.1 hI e_x2 (hc := rfl) (hin := in_6) (by decide) (hts _ k_161) d_Mo_drawFigure_7 ?_
  refine lv_i2l hx hb d_Mo_drawFigure_10 rfl ?_
  refine lv_ldc2 hx hb hown (hts _ k_167) d_Mo_drawFigure_11 ?_
  refine lv_iload_n hx hb d_Mo_drawFigure_14 rfl (lv_at hl 1 rfl) ?_
  refine lv_i2l hx hb d_Mo_drawFigure_15 rfl ?_
  refine lv_lmul hx hb d_Mo_drawFigure_16 ?_
  refine lv_ladd hx hb d_Mo_drawFigure_17 ?_
  obtain ⟨h3, e_h3, hf⟩ := fh_b hf
  refine fh_putv S hE.1 hI e_h3 (hc := rfl) (hin := in_6) tok_6 nok_6 (by decide) (hts _ k_137) rfl rfl rfl d_Mo_drawFigure_18 (fun H locs hI => ?_)
  refine fh_aload_n S d_Mo_drawFigure_21 rfl (lv_at hl 0 rfl) ?_
  obtain ⟨x4, e_x4, hf⟩ := fh_b hf
  refine fh_geta S hE.1 hI e_x4 (hc := rfl) (hin := in_6) (by decide) (hts _ k_162) d_Mo_drawFigure_22 ?_
  refine lv_iload_n hx hb d_Mo_drawFigure_25 rfl (lv_at hl 1 rfl) ?_
  refine lv_iconst (v := (-1)) hx hb d_Mo_drawFigure_26 (by decide) ?_
  obtain ⟨h5, e_h5, hf⟩ := fh_b hf
  refine fh_iast S hE.1 hI 0 rfl e_h5 d_Mo_drawFigure_27 (fun H locs hI => ?_)
  refine lv_iconst (v := 0) hx hb d_Mo_drawFigure_28 (by decide) ?_
  refine lv_istore_n (lv' := [(2, .int 0), (0, va_rf (some o)), (1, .int a1)]) hx hb d_Mo_drawFigure_29 rfl hl (by decide) rfl (fun ls hl => ?_)
  exact L30 N a1 0 h5 _ _ _ (lv_sub hl [1, 2, 0] rfl) hI hf
theorem d_Mo_drawAll_0 : decode c0_Mo_drawAll 0 = .ok (.iconst 0, 1) := by decide +kernel
theorem d_Mo_drawAll_1 : decode c0_Mo_drawAll 1 = .ok (.istore_n 1, 1) := by decide +kernel
theorem d_Mo_drawAll_2 : decode c0_Mo_drawAll 2 = .ok (.iload_n 1, 1) := by decide +kernel
theorem d_Mo_drawAll_3 : decode c0_Mo_drawAll 3 = .ok (.aload_n 0, 1) := by decide +kernel
theorem d_Mo_drawAll_4 : decode c0_Mo_drawAll 4 = .ok (.getfield 20, 3) := by decide +kernel
theorem d_Mo_drawAll_7 : decode c0_Mo_drawAll 7 = .ok (.if_icmp .ge 14, 3) := by decide +kernel
theorem d_Mo_drawAll_10 : decode c0_Mo_drawAll 10 = .ok (.aload_n 0, 1) := by decide +kernel
theorem d_Mo_drawAll_11 : decode c0_Mo_drawAll 11 = .ok (.iload_n 1, 1) := by decide +kernel
theorem d_Mo_drawAll_12 : decode c0_Mo_drawAll 12 = .ok (.invokevirtual 137, 3) := by decide +kernel
theorem d_Mo_drawAll_15 : decode c0_Mo_drawAll 15 = .ok (.iinc 1 1, 3) := by decide +kernel
theorem d_Mo_drawAll_18 : decode c0_Mo_drawAll 18 = .ok (.goto (-16), 3) := by decide +kernel
theorem d_Mo_drawAll_21 : decode c0_Mo_drawAll 21 = .ok (.return_, 1) := by decide +kernel
def b_Mo_drawAll_2 (K : Nat → ClassId) (N : Nat) (k2 : Int32 → fh_H → Option (fh_H)) (o : Nat) (v1 : Int32) (h : fh_H) : Option (fh_H) :=
  (fg_i h (some o) 6 4).bind fun x1 => if x1 ≤ v1 then (some h) else ((fg_o h (some o) 6).bind fun o2 => (f_Mo_drawFigure K N o2 v1 h).bind fun r3 => (some (v1 + 1)).bind fun x4 => k2 x4 r3)
def l_Mo_drawAll_2 (K : Nat → ClassId) (N : Nat) (o : Nat) : Nat → Int32 → fh_H → Option (fh_H)
  | 0, _, _ => none
  | n + 1, v1, h => b_Mo_drawAll_2 K N (l_Mo_drawAll_2 K N o n) o v1 h
def f_Mo_drawAll (K : Nat → ClassId) (N : Nat) (o : Nat)  (h0 : fh_H) : Option (fh_H) :=
  l_Mo_drawAll_2 K N o N 0 h0
set_option maxHeartbeats 4000000 in
set_option maxRecDepth 100000 in
theorem c_Mo_drawAll {l : Launch} {D : va_G} {K : Nat → ClassId} {t : Nat → Nat} {N : Nat} {o : Nat}  {h0 : fh_H} {res : fh_H} (hf : f_Mo_drawAll K N o  h0 = some res) : fC l D K t y_Mo_drawAll c0_Mo_drawAll 2 none rm_Mo_drawAll [.ref o] h0 (none) res := by
  refine fh_body (by decide) (Nat.le_of_ble_eq_true rfl) ?_
  intro p e s m below meth c A ls S hr hk hnm hE hAe hI hl
  obtain ⟨hx, hb, hml, hown, hts⟩ := id S
  have hl : lv_has ls 2 [(0, va_rf (some o))] := hl
  have L2 : ∀ (n2 : Nat) (v1 : Int32) (h : fh_H) (H : Heap) (locs : List Loc) (ls : Array Slot), lv_has ls 2 [(0, va_rf (some o)), (1, .int v1)] → fh_I D classes A s.heap h H locs → l_Mo_drawAll_2 K N o n2 v1 h = some res → W p l e rm_Mo_drawAll s m [.ref o].toArray below meth c H locs 0 0 (MQ below (fh_Q D classes h0 s.heap.size (none) res) [.ref o].toArray s 0 0 A) (F0 m 2 ls []) := by
    intro n2
    induction n2 with
    | zero =>
      intro v1 h H locs ls hl hI hf
      exact fh_no hf
    | succ n2 ih2 =>
      intro v1 h H locs ls hl hI hf
      have hf : b_Mo_drawAll_2 K N (l_Mo_drawAll_2 K N o n2) o v1 h = some res := hf
      unfold b_Mo_drawAll_2 at hf
      refine lv_iload_n hx hb d_Mo_drawAll_2 rfl (lv_at hl 1 rfl) ?_
      refine fh_aload_n S d_Mo_drawAll_3 rfl (lv_at hl 0 rfl) ?_
      obtain ⟨x1, e_x1, hf⟩ := fh_b hf
      refine fh_geti S hE.1 hI e_x1 (hc := rfl) (hin := in_6) (by decide) (hts _ k_168) d_Mo_drawAll_4 ?_
      refine lv_icmp_ge (tgt := 21) hx hb d_Mo_drawAll_7 (by decide) (fun c_7 => ?_) (fun c_7 => ?_)
      · replace hf := fh_t c_7 hf
        obtain rfl := Option.some.inj hf
        exact fh_vret S hr hk hAe hI d_Mo_drawAll_21
      · replace hf := fh_f c_7 hf
        refine fh_aload_n S d_Mo_drawAll_10 rfl (lv_at hl 0 rfl) ?_
        refine lv_iload_n hx hb d_Mo_drawAll_11 rfl (lv_at hl 1 rfl) ?_
        obtain ⟨o2, e_o2, hf⟩ := fh_b hf
        obtain ⟨r3, e_r3, hf⟩ := fh_b hf
        refine fh_callV (As := [.int v1]) (rest := []) S fT_good hE hI e_o2 rfl (c_Mo_drawFigure e_r3) fy_Mo_drawFigure fst_Mo_drawFigure k_169 ⟨rfl, rfl⟩ ⟨Nat.le_of_ble_eq_true rfl, Nat.le_of_ble_eq_true rfl⟩ ⟨Nat.zero_le _, Nat.zero_le _⟩ rfl hl.1 rfl (Nat.le_of_ble_eq_true rfl) d_Mo_drawAll_12 (fun H locs hI => ?_)
        obtain ⟨x4, e_x4, hf⟩ := fh_b hf
        refine lv_iinc (v := x4) (lv' := [(1, .int x4), (0, va_rf (some o))]) hx hb d_Mo_drawAll_15 hl (k := 1) rfl (by rw [fh_qe e_x4]; rfl) (by decide) rfl (fun ls hl => ?_)
        refine lv_goto (tgt := 2) hx hb d_Mo_drawAll_18 (by decide) ?_
        exact ih2 x4 r3 _ _ _ (lv_sub hl [1, 0] rfl) hI hf
  unfold f_Mo_drawAll at hf
  refine lv_iconst (v := 0) hx hb d_Mo_drawAll_0 (by decide) ?_
  refine lv_istore_n (lv' := [(1, .int 0), (0, va_rf (some o))]) hx hb d_Mo_drawAll_1 rfl hl (by decide) rfl (fun ls hl => ?_)
  exact L2 N 0 h0 _ _ _ (lv_sub hl [1, 0] rfl) hI hf
