theorem d_Fi_begin_0 : decode c0_Fi_begin 0 = .ok (.aload_n 0, 1) := by decide +kernel
theorem d_Fi_begin_1 : decode c0_Fi_begin 1 = .ok (.iload_n 1, 1) := by decide +kernel
theorem d_Fi_begin_2 : decode c0_Fi_begin 2 = .ok (.i2l, 1) := by decide +kernel
theorem d_Fi_begin_3 : decode c0_Fi_begin 3 = .ok (.putfield 22, 3) := by decide +kernel
theorem d_Fi_begin_6 : decode c0_Fi_begin 6 = .ok (.aload_n 0, 1) := by decide +kernel
theorem d_Fi_begin_7 : decode c0_Fi_begin 7 = .ok (.iconst 0, 1) := by decide +kernel
theorem d_Fi_begin_8 : decode c0_Fi_begin 8 = .ok (.putfield 26, 3) := by decide +kernel
theorem d_Fi_begin_11 : decode c0_Fi_begin 11 = .ok (.aload_n 0, 1) := by decide +kernel
theorem d_Fi_begin_12 : decode c0_Fi_begin 12 = .ok (.iconst (-1), 1) := by decide +kernel
theorem d_Fi_begin_13 : decode c0_Fi_begin 13 = .ok (.putfield 18, 3) := by decide +kernel
theorem d_Fi_begin_16 : decode c0_Fi_begin 16 = .ok (.return_, 1) := by decide +kernel
def f_Fi_begin (K : Nat → ClassId) (N : Nat) (o : Nat) (a1 : Int32) (h0 : fh_H) : Option (fh_H) :=
  (fp_v h0 (some o) 4 4 (.long a1.toInt64)).bind fun h1 => (fp_v h1 (some o) 4 2 (.int 0)).bind fun h2 => (fp_v h2 (some o) 4 3 (.int (-1))).bind fun h3 => some h3
set_option maxHeartbeats 4000000 in
set_option maxRecDepth 100000 in
theorem c_Fi_begin {l : Launch} {D : va_G} {K : Nat → ClassId} {t : Nat → Nat} {N : Nat} {o : Nat} {a1 : Int32} {h0 : fh_H} {res : fh_H} (hf : f_Fi_begin K N o a1 h0 = some res) : fC l D K t y_Fi_begin c0_Fi_begin 2 none rm_Fi_begin [.ref o, .int a1] h0 (none) res := by
  refine fh_body (by decide) (Nat.le_of_ble_eq_true rfl) ?_
  intro p e s m below meth c A ls S hr hk hnm hE hAe hI hl
  obtain ⟨hx, hb, hml, hown, hts⟩ := id S
  have hl : lv_has ls 2 [(0, va_rf (some o)), (1, .int a1)] := hl
  unfold f_Fi_begin at hf
  refine fh_aload_n S d_Fi_begin_0 rfl (lv_at hl 0 rfl) ?_
  refine lv_iload_n hx hb d_Fi_begin_1 rfl (lv_at hl 1 rfl) ?_
  refine lv_i2l hx hb d_Fi_begin_2 rfl ?_
  obtain ⟨h1, e_h1, hf⟩ := fh_b hf
  refine fh_putv S hE.1 hI e_h1 (hc := rfl) (hin := in_4) tok_4 nok_4 (by decide) (hts _ k_0) rfl rfl rfl d_Fi_begin_3 (fun H locs hI => ?_)
  refine fh_aload_n S d_Fi_begin_6 rfl (lv_at hl 0 rfl) ?_
  refine lv_iconst (v := 0) hx hb d_Fi_begin_7 (by decide) ?_
  obtain ⟨h2, e_h2, hf⟩ := fh_b hf
  refine fh_putv S hE.1 hI e_h2 (hc := rfl) (hin := in_4) tok_4 nok_4 (by decide) (hts _ k_1) rfl rfl rfl d_Fi_begin_8 (fun H locs hI => ?_)
  refine fh_aload_n S d_Fi_begin_11 rfl (lv_at hl 0 rfl) ?_
  refine lv_iconst (v := (-1)) hx hb d_Fi_begin_12 (by decide) ?_
  obtain ⟨h3, e_h3, hf⟩ := fh_b hf
  refine fh_putv S hE.1 hI e_h3 (hc := rfl) (hin := in_4) tok_4 nok_4 (by decide) (hts _ k_2) rfl rfl rfl d_Fi_begin_13 (fun H locs hI => ?_)
  obtain rfl := Option.some.inj hf
  exact fh_vret S hr hk hAe hI d_Fi_begin_16
theorem d_Dr_begin_0 : decode c0_Dr_begin 0 = .ok (.aload_n 0, 1) := by decide +kernel
theorem d_Dr_begin_1 : decode c0_Dr_begin 1 = .ok (.iload_n 2, 1) := by decide +kernel
theorem d_Dr_begin_2 : decode c0_Dr_begin 2 = .ok (.putfield 25, 3) := by decide +kernel
theorem d_Dr_begin_5 : decode c0_Dr_begin 5 = .ok (.iconst 0, 1) := by decide +kernel
theorem d_Dr_begin_6 : decode c0_Dr_begin 6 = .ok (.istore_n 3, 1) := by decide +kernel
theorem d_Dr_begin_7 : decode c0_Dr_begin 7 = .ok (.iload_n 3, 1) := by decide +kernel
theorem d_Dr_begin_8 : decode c0_Dr_begin 8 = .ok (.aload_n 0, 1) := by decide +kernel
theorem d_Dr_begin_9 : decode c0_Dr_begin 9 = .ok (.getfield 25, 3) := by decide +kernel
theorem d_Dr_begin_12 : decode c0_Dr_begin 12 = .ok (.if_icmp .ge 25, 3) := by decide +kernel
theorem d_Dr_begin_15 : decode c0_Dr_begin 15 = .ok (.aload_n 0, 1) := by decide +kernel
theorem d_Dr_begin_16 : decode c0_Dr_begin 16 = .ok (.getfield 11, 3) := by decide +kernel
theorem d_Dr_begin_19 : decode c0_Dr_begin 19 = .ok (.iload_n 3, 1) := by decide +kernel
theorem d_Dr_begin_20 : decode c0_Dr_begin 20 = .ok (.aaload, 1) := by decide +kernel
theorem d_Dr_begin_21 : decode c0_Dr_begin 21 = .ok (.iload_n 1, 1) := by decide +kernel
theorem d_Dr_begin_22 : decode c0_Dr_begin 22 = .ok (.sipush 1000, 3) := by decide +kernel
theorem d_Dr_begin_25 : decode c0_Dr_begin 25 = .ok (.iload_n 3, 1) := by decide +kernel
theorem d_Dr_begin_26 : decode c0_Dr_begin 26 = .ok (.imul, 1) := by decide +kernel
theorem d_Dr_begin_27 : decode c0_Dr_begin 27 = .ok (.iadd, 1) := by decide +kernel
theorem d_Dr_begin_28 : decode c0_Dr_begin 28 = .ok (.invokevirtual 29, 3) := by decide +kernel
theorem d_Dr_begin_31 : decode c0_Dr_begin 31 = .ok (.iinc 3 1, 3) := by decide +kernel
theorem d_Dr_begin_34 : decode c0_Dr_begin 34 = .ok (.goto (-27), 3) := by decide +kernel
theorem d_Dr_begin_37 : decode c0_Dr_begin 37 = .ok (.return_, 1) := by decide +kernel
def b_Dr_begin_7 (K : Nat → ClassId) (N : Nat) (k7 : Int32 → Int32 → fh_H → Option (fh_H)) (o : Nat) (v1 : Int32) (v3 : Int32) (h : fh_H) : Option (fh_H) :=
  (fg_i h (some o) 3 2).bind fun x1 => if x1 ≤ v3 then (some h) else ((fg_a h (some o) 3 0).bind fun x2 => (fa_a (K 3) h x2 v3).bind fun x3 => (fg_o h x3 4).bind fun o4 => (f_Fi_begin K N o4 (v1 + (1000 * v3)) h).bind fun r5 => (some (v3 + 1)).bind fun x6 => k7 v1 x6 r5)
def l_Dr_begin_7 (K : Nat → ClassId) (N : Nat) (o : Nat) : Nat → Int32 → Int32 → fh_H → Option (fh_H)
  | 0, _, _, _ => none
  | n + 1, v1, v3, h => b_Dr_begin_7 K N (l_Dr_begin_7 K N o n) o v1 v3 h
def f_Dr_begin (K : Nat → ClassId) (N : Nat) (o : Nat) (a1 : Int32) (a2 : Int32) (h0 : fh_H) : Option (fh_H) :=
  (fp_v h0 (some o) 3 2 (.int a2)).bind fun h1 => l_Dr_begin_7 K N o N a1 0 h1
set_option maxHeartbeats 4000000 in
set_option maxRecDepth 100000 in
theorem c_Dr_begin {l : Launch} {D : va_G} {K : Nat → ClassId} {t : Nat → Nat} {N : Nat} {o : Nat} {a1 : Int32} {a2 : Int32} {h0 : fh_H} {res : fh_H} (hf : f_Dr_begin K N o a1 a2 h0 = some res) : fC l D K t y_Dr_begin c0_Dr_begin 4 none rm_Dr_begin [.ref o, .int a1, .int a2] h0 (none) res := by
  refine fh_body (by decide) (Nat.le_of_ble_eq_true rfl) ?_
  intro p e s m below meth c A ls S hr hk hnm hE hAe hI hl
  obtain ⟨hx, hb, hml, hown, hts⟩ := id S
  have hl : lv_has ls 4 [(0, va_rf (some o)), (1, .int a1), (2, .int a2)] := hl
  have L7 : ∀ (n7 : Nat) (v1 : Int32) (v3 : Int32) (h : fh_H) (H : Heap) (locs : List Loc) (ls : Array Slot), lv_has ls 4 [(0, va_rf (some o)), (1, .int v1), (3, .int v3)] → fh_I D classes A s.heap h H locs → l_Dr_begin_7 K N o n7 v1 v3 h = some res → W p l e rm_Dr_begin s m [.ref o, .int a1, .int a2].toArray below meth c H locs 0 0 (MQ below (fh_Q D classes h0 s.heap.size (none) res) [.ref o, .int a1, .int a2].toArray s 0 0 A) (F0 m 7 ls []) := by
    intro n7
    induction n7 with
    | zero =>
      intro v1 v3 h H locs ls hl hI hf
      exact fh_no hf
    | succ n7 ih7 =>
      intro v1 v3 h H locs ls hl hI hf
      have hf : b_Dr_begin_7 K N (l_Dr_begin_7 K N o n7) o v1 v3 h = some res := hf
      unfold b_Dr_begin_7 at hf
      refine lv_iload_n hx hb d_Dr_begin_7 rfl (lv_at hl 2 rfl) ?_
      refine fh_aload_n S d_Dr_begin_8 rfl (lv_at hl 0 rfl) ?_
      obtain ⟨x1, e_x1, hf⟩ := fh_b hf
      refine fh_geti S hE.1 hI e_x1 (hc := rfl) (hin := in_3) (by decide) (hts _ k_3) d_Dr_begin_9 ?_
      refine lv_icmp_ge (tgt := 37) hx hb d_Dr_begin_12 (by decide) (fun c_12 => ?_) (fun c_12 => ?_)
      · replace hf := fh_t c_12 hf
        obtain rfl := Option.some.inj hf
        exact fh_vret S hr hk hAe hI d_Dr_begin_37
      · replace hf := fh_f c_12 hf
        refine fh_aload_n S d_Dr_begin_15 rfl (lv_at hl 0 rfl) ?_
        obtain ⟨x2, e_x2, hf⟩ := fh_b hf
        refine fh_geta S hE.1 hI e_x2 (hc := rfl) (hin := in_3) (by decide) (hts _ k_4) d_Dr_begin_16 ?_
        refine lv_iload_n hx hb d_Dr_begin_19 rfl (lv_at hl 2 rfl) ?_
        obtain ⟨x3, e_x3, hf⟩ := fh_b hf
        refine fh_aald S hE.1 hI 3 rfl e_x3 d_Dr_begin_20 ?_
        refine lv_iload_n hx hb d_Dr_begin_21 rfl (lv_at hl 1 rfl) ?_
        refine lv_sipush (v := 1000) hx hb d_Dr_begin_22 (by decide) ?_
        refine lv_iload_n hx hb d_Dr_begin_25 rfl (lv_at hl 2 rfl) ?_
        refine lv_imul hx hb d_Dr_begin_26 ?_
        refine lv_iadd hx hb d_Dr_begin_27 ?_
        obtain ⟨o4, e_o4, hf⟩ := fh_b hf
        obtain ⟨r5, e_r5, hf⟩ := fh_b hf
        refine fh_callV (As := [.int (v1 + (1000 * v3))]) (rest := []) S fT_good hE hI e_o4 rfl (c_Fi_begin e_r5) fy_Fi_begin fst_Fi_begin k_5 ⟨rfl, rfl⟩ ⟨Nat.le_of_ble_eq_true rfl, Nat.le_of_ble_eq_true rfl⟩ ⟨Nat.zero_le _, Nat.zero_le _⟩ rfl hl.1 rfl (Nat.le_of_ble_eq_true rfl) d_Dr_begin_28 (fun H locs hI => ?_)
        obtain ⟨x6, e_x6, hf⟩ := fh_b hf
        refine lv_iinc (v := x6) (lv' := [(3, .int x6), (0, va_rf (some o)), (1, .int v1)]) hx hb d_Dr_begin_31 hl (k := 2) rfl (by rw [fh_qe e_x6]; rfl) (by decide) rfl (fun ls hl => ?_)
        refine lv_goto (tgt := 7) hx hb d_Dr_begin_34 (by decide) ?_
        exact ih7 v1 x6 r5 _ _ _ (lv_sub hl [1, 2, 0] rfl) hI hf
  unfold f_Dr_begin at hf
  refine fh_aload_n S d_Dr_begin_0 rfl (lv_at hl 0 rfl) ?_
  refine lv_iload_n hx hb d_Dr_begin_1 rfl (lv_at hl 2 rfl) ?_
  obtain ⟨h1, e_h1, hf⟩ := fh_b hf
  refine fh_putv S hE.1 hI e_h1 (hc := rfl) (hin := in_3) tok_3 nok_3 (by decide) (hts _ k_3) rfl rfl rfl d_Dr_begin_2 (fun H locs hI => ?_)
  refine lv_iconst (v := 0) hx hb d_Dr_begin_5 (by decide) ?_
  refine lv_istore_n (lv' := [(3, .int 0), (0, va_rf (some o)), (1, .int a1), (2, .int a2)]) hx hb d_Dr_begin_6 rfl hl (by decide) rfl (fun ls hl => ?_)
  exact L7 N a1 0 h1 _ _ _ (lv_sub hl [1, 2, 0] rfl) hI hf
theorem d_Pl_from_0 : decode c0_Pl_from 0 = .ok (.aload_n 0, 1) := by decide +kernel
theorem d_Pl_from_1 : decode c0_Pl_from 1 = .ok (.getfield 15, 3) := by decide +kernel
theorem d_Pl_from_4 : decode c0_Pl_from 4 = .ok (.iload_n 1, 1) := by decide +kernel
theorem d_Pl_from_5 : decode c0_Pl_from 5 = .ok (.iconst 4, 1) := by decide +kernel
theorem d_Pl_from_6 : decode c0_Pl_from 6 = .ok (.imul, 1) := by decide +kernel
theorem d_Pl_from_7 : decode c0_Pl_from 7 = .ok (.iload_n 2, 1) := by decide +kernel
theorem d_Pl_from_8 : decode c0_Pl_from 8 = .ok (.iadd, 1) := by decide +kernel
theorem d_Pl_from_9 : decode c0_Pl_from 9 = .ok (.iaload, 1) := by decide +kernel
theorem d_Pl_from_10 : decode c0_Pl_from 10 = .ok (.ireturn, 1) := by decide +kernel
def f_Pl_from (K : Nat → ClassId) (N : Nat) (o : Nat) (a1 : Int32) (a2 : Int32) (h0 : fh_H) : Option (Int32 × fh_H) :=
  (fg_a h0 (some o) 1 1).bind fun x1 => (fa_i (K 0) h0 x1 ((a1 * 4) + a2)).bind fun x2 => some (x2, h0)
set_option maxHeartbeats 4000000 in
set_option maxRecDepth 100000 in
theorem c_Pl_from {l : Launch} {D : va_G} {K : Nat → ClassId} {t : Nat → Nat} {N : Nat} {o : Nat} {a1 : Int32} {a2 : Int32} {h0 : fh_H} {res : Int32 × fh_H} (hf : f_Pl_from K N o a1 a2 h0 = some res) : fC l D K t y_Pl_from c0_Pl_from 3 (some .int) rm_Pl_from [.ref o, .int a1, .int a2] h0 (some (.int res.1)) res.2 := by
  refine fh_body (by decide) (Nat.le_of_ble_eq_true rfl) ?_
  intro p e s m below meth c A ls S hr hk hnm hE hAe hI hl
  obtain ⟨hx, hb, hml, hown, hts⟩ := id S
  have hl : lv_has ls 3 [(0, va_rf (some o)), (1, .int a1), (2, .int a2)] := hl
  unfold f_Pl_from at hf
  refine fh_aload_n S d_Pl_from_0 rfl (lv_at hl 0 rfl) ?_
  obtain ⟨x1, e_x1, hf⟩ := fh_b hf
  refine fh_geta S hE.1 hI e_x1 (hc := rfl) (hin := in_1) (by decide) (hts _ k_6) d_Pl_from_1 ?_
  refine lv_iload_n hx hb d_Pl_from_4 rfl (lv_at hl 1 rfl) ?_
  refine lv_iconst (v := 4) hx hb d_Pl_from_5 (by decide) ?_
  refine lv_imul hx hb d_Pl_from_6 ?_
  refine lv_iload_n hx hb d_Pl_from_7 rfl (lv_at hl 2 rfl) ?_
  refine lv_iadd hx hb d_Pl_from_8 ?_
  obtain ⟨x2, e_x2, hf⟩ := fh_b hf
  refine fh_iald S hE.1 hI 0 rfl e_x2 d_Pl_from_9 ?_
  obtain rfl := Option.some.inj hf
  exact fh_iret S hr hk rfl hAe hI d_Pl_from_10
theorem d_Fi_nextNumber_0 : decode c0_Fi_nextNumber 0 = .ok (.aload_n 0, 1) := by decide +kernel
theorem d_Fi_nextNumber_1 : decode c0_Fi_nextNumber 1 = .ok (.aload_n 0, 1) := by decide +kernel
theorem d_Fi_nextNumber_2 : decode c0_Fi_nextNumber 2 = .ok (.getfield 22, 3) := by decide +kernel
theorem d_Fi_nextNumber_5 : decode c0_Fi_nextNumber 5 = .ok (.ldc2_w 91, 3) := by decide +kernel
theorem d_Fi_nextNumber_8 : decode c0_Fi_nextNumber 8 = .ok (.lmul, 1) := by decide +kernel
theorem d_Fi_nextNumber_9 : decode c0_Fi_nextNumber 9 = .ok (.ldc2_w 93, 3) := by decide +kernel
theorem d_Fi_nextNumber_12 : decode c0_Fi_nextNumber 12 = .ok (.lrem, 1) := by decide +kernel
theorem d_Fi_nextNumber_13 : decode c0_Fi_nextNumber 13 = .ok (.putfield 22, 3) := by decide +kernel
theorem d_Fi_nextNumber_16 : decode c0_Fi_nextNumber 16 = .ok (.aload_n 0, 1) := by decide +kernel
theorem d_Fi_nextNumber_17 : decode c0_Fi_nextNumber 17 = .ok (.getfield 22, 3) := by decide +kernel
theorem d_Fi_nextNumber_20 : decode c0_Fi_nextNumber 20 = .ok (.ldc2_w 88, 3) := by decide +kernel
theorem d_Fi_nextNumber_23 : decode c0_Fi_nextNumber 23 = .ok (.lrem, 1) := by decide +kernel
theorem d_Fi_nextNumber_24 : decode c0_Fi_nextNumber 24 = .ok (.lreturn, 1) := by decide +kernel
def f_Fi_nextNumber (K : Nat → ClassId) (N : Nat) (o : Nat)  (h0 : fh_H) : Option (Int64 × fh_H) :=
  (fg_l h0 (some o) 4 4).bind fun x1 => (fp_v h0 (some o) 4 4 (.long (fr_l (x1 * 48271) 2147483647))).bind fun h2 => (fg_l h2 (some o) 4 4).bind fun x3 => some (fr_l x3 1000003, h2)
set_option maxHeartbeats 4000000 in
set_option maxRecDepth 100000 in
theorem c_Fi_nextNumber {l : Launch} {D : va_G} {K : Nat → ClassId} {t : Nat → Nat} {N : Nat} {o : Nat}  {h0 : fh_H} {res : Int64 × fh_H} (hf : f_Fi_nextNumber K N o  h0 = some res) : fC l D K t y_Fi_nextNumber c0_Fi_nextNumber 1 (some .long) rm_Fi_nextNumber [.ref o] h0 (some (.long res.1)) res.2 := by
  refine fh_body (by decide) (Nat.le_of_ble_eq_true rfl) ?_
  intro p e s m below meth c A ls S hr hk hnm hE hAe hI hl
  obtain ⟨hx, hb, hml, hown, hts⟩ := id S
  have hl : lv_has ls 1 [(0, va_rf (some o))] := hl
  unfold f_Fi_nextNumber at hf
  refine fh_aload_n S d_Fi_nextNumber_0 rfl (lv_at hl 0 rfl) ?_
  refine fh_aload_n S d_Fi_nextNumber_1 rfl (lv_at hl 0 rfl) ?_
  obtain ⟨x1, e_x1, hf⟩ := fh_b hf
  refine fh_getl S hE.1 hI e_x1 (hc := rfl) (hin := in_4) (by decide) (hts _ k_0) d_Fi_nextNumber_2 ?_
  refine lv_ldc2 hx hb hown (hts _ k_7) d_Fi_nextNumber_5 ?_
  refine lv_lmul hx hb d_Fi_nextNumber_8 ?_
  refine lv_ldc2 hx hb hown (hts _ k_8) d_Fi_nextNumber_9 ?_
  refine fh_lrem S d_Fi_nextNumber_12 (by decide) ?_
  obtain ⟨h2, e_h2, hf⟩ := fh_b hf
  refine fh_putv S hE.1 hI e_h2 (hc := rfl) (hin := in_4) tok_4 nok_4 (by decide) (hts _ k_0) rfl rfl rfl d_Fi_nextNumber_13 (fun H locs hI => ?_)
  refine fh_aload_n S d_Fi_nextNumber_16 rfl (lv_at hl 0 rfl) ?_
  obtain ⟨x3, e_x3, hf⟩ := fh_b hf
  refine fh_getl S hE.1 hI e_x3 (hc := rfl) (hin := in_4) (by decide) (hts _ k_0) d_Fi_nextNumber_17 ?_
  refine lv_ldc2 hx hb hown (hts _ k_9) d_Fi_nextNumber_20 ?_
  refine fh_lrem S d_Fi_nextNumber_23 (by decide) ?_
  obtain rfl := Option.some.inj hf
  exact fh_lret S hr hk hAe hI d_Fi_nextNumber_24
theorem d_Fi_found_0 : decode c0_Fi_found 0 = .ok (.lload_n 1, 1) := by decide +kernel
theorem d_Fi_found_1 : decode c0_Fi_found 1 = .ok (.ldc2_w 88, 3) := by decide +kernel
theorem d_Fi_found_4 : decode c0_Fi_found 4 = .ok (.lrem, 1) := by decide +kernel
theorem d_Fi_found_5 : decode c0_Fi_found 5 = .ok (.l2i, 1) := by decide +kernel
theorem d_Fi_found_6 : decode c0_Fi_found 6 = .ok (.istore 5, 2) := by decide +kernel
theorem d_Fi_found_8 : decode c0_Fi_found 8 = .ok (.lload_n 3, 1) := by decide +kernel
theorem d_Fi_found_9 : decode c0_Fi_found 9 = .ok (.ldc2_w 88, 3) := by decide +kernel
theorem d_Fi_found_12 : decode c0_Fi_found 12 = .ok (.lrem, 1) := by decide +kernel
theorem d_Fi_found_13 : decode c0_Fi_found 13 = .ok (.l2i, 1) := by decide +kernel
theorem d_Fi_found_14 : decode c0_Fi_found 14 = .ok (.istore 6, 2) := by decide +kernel
theorem d_Fi_found_16 : decode c0_Fi_found 16 = .ok (.aload_n 0, 1) := by decide +kernel
theorem d_Fi_found_17 : decode c0_Fi_found 17 = .ok (.iload 5, 2) := by decide +kernel
theorem d_Fi_found_19 : decode c0_Fi_found 19 = .ok (.ifCond .ge 11, 3) := by decide +kernel
theorem d_Fi_found_22 : decode c0_Fi_found 22 = .ok (.iload 5, 2) := by decide +kernel
theorem d_Fi_found_24 : decode c0_Fi_found 24 = .ok (.ldc 90, 2) := by decide +kernel
theorem d_Fi_found_26 : decode c0_Fi_found 26 = .ok (.iadd, 1) := by decide +kernel
theorem d_Fi_found_27 : decode c0_Fi_found 27 = .ok (.goto 5, 3) := by decide +kernel
theorem d_Fi_found_30 : decode c0_Fi_found 30 = .ok (.iload 5, 2) := by decide +kernel
theorem d_Fi_found_32 : decode c0_Fi_found 32 = .ok (.putfield 45, 3) := by decide +kernel
theorem d_Fi_found_35 : decode c0_Fi_found 35 = .ok (.aload_n 0, 1) := by decide +kernel
theorem d_Fi_found_36 : decode c0_Fi_found 36 = .ok (.iload 6, 2) := by decide +kernel
theorem d_Fi_found_38 : decode c0_Fi_found 38 = .ok (.ifCond .ge 11, 3) := by decide +kernel
theorem d_Fi_found_41 : decode c0_Fi_found 41 = .ok (.iload 6, 2) := by decide +kernel
theorem d_Fi_found_43 : decode c0_Fi_found 43 = .ok (.ldc 90, 2) := by decide +kernel
theorem d_Fi_found_45 : decode c0_Fi_found 45 = .ok (.iadd, 1) := by decide +kernel
theorem d_Fi_found_46 : decode c0_Fi_found 46 = .ok (.goto 5, 3) := by decide +kernel
theorem d_Fi_found_49 : decode c0_Fi_found 49 = .ok (.iload 6, 2) := by decide +kernel
theorem d_Fi_found_51 : decode c0_Fi_found 51 = .ok (.putfield 48, 3) := by decide +kernel
theorem d_Fi_found_54 : decode c0_Fi_found 54 = .ok (.iconst 1, 1) := by decide +kernel
theorem d_Fi_found_55 : decode c0_Fi_found 55 = .ok (.ireturn, 1) := by decide +kernel
def b_Fi_found_32 (K : Nat → ClassId) (N : Nat) (o : Nat) (v6 : Int32) (w0 : Option Nat) (w1 : Int32) (h : fh_H) : Option (Int32 × fh_H) :=
  (fp_v h w0 4 5 (.int w1)).bind fun h1 => if 0 ≤ v6 then ((fp_v h1 (some o) 4 6 (.int v6)).bind fun h2 => some (1, h2)) else ((fp_v h1 (some o) 4 6 (.int (v6 + 1000003))).bind fun h3 => some (1, h3))
def f_Fi_found (K : Nat → ClassId) (N : Nat) (o : Nat) (a1 : Int64) (a3 : Int64) (h0 : fh_H) : Option (Int32 × fh_H) :=
  (some ((fr_l a1 1000003).toInt32)).bind fun x1 => (some ((fr_l a3 1000003).toInt32)).bind fun x2 => if 0 ≤ x1 then (b_Fi_found_32 K N o x2 (some o) x1 h0) else (b_Fi_found_32 K N o x2 (some o) (x1 + 1000003) h0)
set_option maxHeartbeats 4000000 in
set_option maxRecDepth 100000 in
theorem c_Fi_found {l : Launch} {D : va_G} {K : Nat → ClassId} {t : Nat → Nat} {N : Nat} {o : Nat} {a1 : Int64} {a3 : Int64} {h0 : fh_H} {res : Int32 × fh_H} (hf : f_Fi_found K N o a1 a3 h0 = some res) : fC l D K t y_Fi_found c0_Fi_found 7 (some .boolean) rm_Fi_found [.ref o, .long a1, .long a3] h0 (some (.int res.1)) res.2 := by
  refine fh_body (by decide) (Nat.le_of_ble_eq_true rfl) ?_
  intro p e s m below meth c A ls S hr hk hnm hE hAe hI hl
  obtain ⟨hx, hb, hml, hown, hts⟩ := id S
  have hl : lv_has ls 7 [(0, va_rf (some o)), (1, .long a1), (3, .long a3)] := hl
  have B32 : ∀ (v6 : Int32) (w0 : Option Nat) (w1 : Int32) (h : fh_H) (H : Heap) (locs : List Loc) (ls : Array Slot), lv_has ls 7 [(0, va_rf (some o)), (6, .int v6)] → fh_I D classes A s.heap h H locs → b_Fi_found_32 K N o v6 w0 w1 h = some res → W p l e rm_Fi_found s m [.ref o, .long a1, .long a3].toArray below meth c H locs 0 0 (MQ below (fh_Q D classes h0 s.heap.size (some (.int res.1)) res.2) [.ref o, .long a1, .long a3].toArray s 0 0 A) (F0 m 32 ls [.int w1, va_rf w0]) := by
    intro v6 w0 w1 h H locs ls hl hI hf
    unfold b_Fi_found_32 at hf
    obtain ⟨h1, e_h1, hf⟩ := fh_b hf
    refine fh_putv S hE.1 hI e_h1 (hc := rfl) (hin := in_4) tok_4 nok_4 (by decide) (hts _ k_10) rfl rfl rfl d_Fi_found_32 (fun H locs hI => ?_)
    refine fh_aload_n S d_Fi_found_35 rfl (lv_at hl 0 rfl) ?_
    refine lv_iload hx hb d_Fi_found_36 (lv_at hl 1 rfl) ?_
    refine lv_if_ge (tgt := 49) hx hb d_Fi_found_38 (by decide) (fun c_38 => ?_) (fun c_38 => ?_)
    · replace hf := fh_t c_38 hf
      refine lv_iload hx hb d_Fi_found_49 (lv_at hl 1 rfl) ?_
      obtain ⟨h2, e_h2, hf⟩ := fh_b hf
      refine fh_putv S hE.1 hI e_h2 (hc := rfl) (hin := in_4) tok_4 nok_4 (by decide) (hts _ k_11) rfl rfl rfl d_Fi_found_51 (fun H locs hI => ?_)
      refine lv_iconst (v := 1) hx hb d_Fi_found_54 (by decide) ?_
      obtain rfl := Option.some.inj hf
      exact fh_iret S hr hk (fh_nb (Or.inr rfl)) hAe hI d_Fi_found_55
    · replace hf := fh_f c_38 hf
      refine lv_iload hx hb d_Fi_found_41 (lv_at hl 1 rfl) ?_
      refine lv_ldc hx hb hown (hts _ k_12) d_Fi_found_43 ?_
      refine lv_iadd hx hb d_Fi_found_45 ?_
      refine lv_goto (tgt := 51) hx hb d_Fi_found_46 (by decide) ?_
      obtain ⟨h3, e_h3, hf⟩ := fh_b hf
      refine fh_putv S hE.1 hI e_h3 (hc := rfl) (hin := in_4) tok_4 nok_4 (by decide) (hts _ k_11) rfl rfl rfl d_Fi_found_51 (fun H locs hI => ?_)
      refine lv_iconst (v := 1) hx hb d_Fi_found_54 (by decide) ?_
      obtain rfl := Option.some.inj hf
      exact fh_iret S hr hk (fh_nb (Or.inr rfl)) hAe hI d_Fi_found_55
  unfold f_Fi_found at hf
  refine lv_lload_n hx hb d_Fi_found_0 rfl (lv_at hl 1 rfl) ?_
  refine lv_ldc2 hx hb hown (hts _ k_9) d_Fi_found_1 ?_
  refine fh_lrem S d_Fi_found_4 (by decide) ?_
  refine lv_l2i hx hb d_Fi_found_5 rfl ?_
  obtain ⟨x1, e_x1, hf⟩ := fh_b hf
  refine fh_topi e_x1 ?_
  refine lv_istore (lv' := [(5, .int x1), (0, va_rf (some o)), (1, .long a1), (3, .long a3)]) hx hb d_Fi_found_6 hl (by decide) rfl (fun ls hl => ?_)
  refine lv_lload_n hx hb d_Fi_found_8 rfl (lv_at hl 3 rfl) ?_
  refine lv_ldc2 hx hb hown (hts _ k_9) d_Fi_found_9 ?_
  refine fh_lrem S d_Fi_found_12 (by decide) ?_
  refine lv_l2i hx hb d_Fi_found_13 rfl ?_
  obtain ⟨x2, e_x2, hf⟩ := fh_b hf
  refine fh_topi e_x2 ?_
  refine lv_istore (lv' := [(6, .int x2), (5, .int x1), (0, va_rf (some o)), (1, .long a1), (3, .long a3)]) hx hb d_Fi_found_14 hl (by decide) rfl (fun ls hl => ?_)
  refine fh_aload_n S d_Fi_found_16 rfl (lv_at hl 2 rfl) ?_
  refine lv_iload hx hb d_Fi_found_17 (lv_at hl 1 rfl) ?_
  refine lv_if_ge (tgt := 30) hx hb d_Fi_found_19 (by decide) (fun c_19 => ?_) (fun c_19 => ?_)
  · replace hf := fh_t c_19 hf
    refine lv_iload hx hb d_Fi_found_30 (lv_at hl 1 rfl) ?_
    exact B32 x2 (some o) x1 h0 _ _ _ (lv_sub hl [2, 0] rfl) hI hf
  · replace hf := fh_f c_19 hf
    refine lv_iload hx hb d_Fi_found_22 (lv_at hl 1 rfl) ?_
    refine lv_ldc hx hb hown (hts _ k_12) d_Fi_found_24 ?_
    refine lv_iadd hx hb d_Fi_found_26 ?_
    refine lv_goto (tgt := 32) hx hb d_Fi_found_27 (by decide) ?_
    exact B32 x2 (some o) (x1 + 1000003) h0 _ _ _ (lv_sub hl [2, 0] rfl) hI hf
theorem d_Fi_findFree_0 : decode c0_Fi_findFree 0 = .ok (.aload_n 0, 1) := by decide +kernel
theorem d_Fi_findFree_1 : decode c0_Fi_findFree 1 = .ok (.invokevirtual 72, 3) := by decide +kernel
theorem d_Fi_findFree_4 : decode c0_Fi_findFree 4 = .ok (.lstore_n 1, 1) := by decide +kernel
theorem d_Fi_findFree_5 : decode c0_Fi_findFree 5 = .ok (.aload_n 0, 1) := by decide +kernel
theorem d_Fi_findFree_6 : decode c0_Fi_findFree 6 = .ok (.invokevirtual 72, 3) := by decide +kernel
theorem d_Fi_findFree_9 : decode c0_Fi_findFree 9 = .ok (.lstore_n 3, 1) := by decide +kernel
theorem d_Fi_findFree_10 : decode c0_Fi_findFree 10 = .ok (.aload_n 0, 1) := by decide +kernel
theorem d_Fi_findFree_11 : decode c0_Fi_findFree 11 = .ok (.lload_n 1, 1) := by decide +kernel
theorem d_Fi_findFree_12 : decode c0_Fi_findFree 12 = .ok (.lload_n 3, 1) := by decide +kernel
theorem d_Fi_findFree_13 : decode c0_Fi_findFree 13 = .ok (.invokevirtual 57, 3) := by decide +kernel
theorem d_Fi_findFree_16 : decode c0_Fi_findFree 16 = .ok (.ireturn, 1) := by decide +kernel
def f_Fi_findFree (K : Nat → ClassId) (N : Nat) (o : Nat)  (h0 : fh_H) : Option (Int32 × fh_H) :=
  (fg_o h0 (some o) 4).bind fun o1 => (f_Fi_nextNumber K N o1 h0).bind fun r2 => (fg_o r2.2 (some o) 4).bind fun o3 => (f_Fi_nextNumber K N o3 r2.2).bind fun r4 => (fg_o r4.2 (some o) 4).bind fun o5 => (f_Fi_found K N o5 r2.1 r4.1 r4.2).bind fun r6 => fz r6.1 r6.2
set_option maxHeartbeats 4000000 in
set_option maxRecDepth 100000 in
theorem c_Fi_findFree {l : Launch} {D : va_G} {K : Nat → ClassId} {t : Nat → Nat} {N : Nat} {o : Nat}  {h0 : fh_H} {res : Int32 × fh_H} (hf : f_Fi_findFree K N o  h0 = some res) : fC l D K t y_Fi_findFree c0_Fi_findFree 5 (some .boolean) rm_Fi_findFree [.ref o] h0 (some (.int res.1)) res.2 := by
  refine fh_body (by decide) (Nat.le_of_ble_eq_true rfl) ?_
  intro p e s m below meth c A ls S hr hk hnm hE hAe hI hl
  obtain ⟨hx, hb, hml, hown, hts⟩ := id S
  have hl : lv_has ls 5 [(0, va_rf (some o))] := hl
  unfold f_Fi_findFree at hf
  refine fh_aload_n S d_Fi_findFree_0 rfl (lv_at hl 0 rfl) ?_
  obtain ⟨o1, e_o1, hf⟩ := fh_b hf
  obtain ⟨r2, e_r2, hf⟩ := fh_b hf
  refine fh_callV (As := []) (rest := []) S fT_good hE hI e_o1 rfl (c_Fi_nextNumber e_r2) fy_Fi_nextNumber fst_Fi_nextNumber k_13 ⟨rfl, rfl⟩ ⟨Nat.le_of_ble_eq_true rfl, Nat.le_of_ble_eq_true rfl⟩ ⟨Nat.zero_le _, Nat.zero_le _⟩ rfl hl.1 rfl (Nat.le_of_ble_eq_true rfl) d_Fi_findFree_1 (fun H locs hI => ?_)
  refine lv_lstore_n (lv' := [(1, .long r2.1), (0, va_rf (some o))]) hx hb d_Fi_findFree_4 rfl hl (by decide) rfl (fun ls hl => ?_)
  refine fh_aload_n S d_Fi_findFree_5 rfl (lv_at hl 1 rfl) ?_
  obtain ⟨o3, e_o3, hf⟩ := fh_b hf
  obtain ⟨r4, e_r4, hf⟩ := fh_b hf
  refine fh_callV (As := []) (rest := []) S fT_good hE hI e_o3 rfl (c_Fi_nextNumber e_r4) fy_Fi_nextNumber fst_Fi_nextNumber k_13 ⟨rfl, rfl⟩ ⟨Nat.le_of_ble_eq_true rfl, Nat.le_of_ble_eq_true rfl⟩ ⟨Nat.zero_le _, Nat.zero_le _⟩ rfl hl.1 rfl (Nat.le_of_ble_eq_true rfl) d_Fi_findFree_6 (fun H locs hI => ?_)
  refine lv_lstore_n (lv' := [(3, .long r4.1), (1, .long r2.1), (0, va_rf (some o))]) hx hb d_Fi_findFree_9 rfl hl (by decide) rfl (fun ls hl => ?_)
  refine fh_aload_n S d_Fi_findFree_10 rfl (lv_at hl 2 rfl) ?_
  refine lv_lload_n hx hb d_Fi_findFree_11 rfl (lv_at hl 1 rfl) ?_
  refine lv_lload_n hx hb d_Fi_findFree_12 rfl (lv_at hl 0 rfl) ?_
  obtain ⟨o5, e_o5, hf⟩ := fh_b hf
  obtain ⟨r6, e_r6, hf⟩ := fh_b hf
  refine fh_callV (As := [.long r2.1, .long r4.1]) (rest := []) S fT_good hE hI e_o5 rfl (c_Fi_found e_r6) fy_Fi_found fst_Fi_found k_14 ⟨rfl, rfl⟩ ⟨Nat.le_of_ble_eq_true rfl, Nat.le_of_ble_eq_true rfl⟩ ⟨Nat.zero_le _, Nat.zero_le _⟩ rfl hl.1 rfl (Nat.le_of_ble_eq_true rfl) d_Fi_findFree_13 (fun H locs hI => ?_)
  obtain ⟨hz, rfl⟩ := fz_s hf
  exact fh_iret S hr hk (fh_nb hz) hAe hI d_Fi_findFree_16
theorem d_Fi_length_0 : decode c0_Fi_length 0 = .ok (.aload_n 0, 1) := by decide +kernel
theorem d_Fi_length_1 : decode c0_Fi_length 1 = .ok (.getfield 9, 3) := by decide +kernel
theorem d_Fi_length_4 : decode c0_Fi_length 4 = .ok (.iload_n 2, 1) := by decide +kernel
theorem d_Fi_length_5 : decode c0_Fi_length 5 = .ok (.iaload, 1) := by decide +kernel
theorem d_Fi_length_6 : decode c0_Fi_length 6 = .ok (.aload_n 0, 1) := by decide +kernel
theorem d_Fi_length_7 : decode c0_Fi_length 7 = .ok (.getfield 9, 3) := by decide +kernel
theorem d_Fi_length_10 : decode c0_Fi_length 10 = .ok (.iload_n 1, 1) := by decide +kernel
theorem d_Fi_length_11 : decode c0_Fi_length 11 = .ok (.iaload, 1) := by decide +kernel
theorem d_Fi_length_12 : decode c0_Fi_length 12 = .ok (.isub, 1) := by decide +kernel
theorem d_Fi_length_13 : decode c0_Fi_length 13 = .ok (.i2l, 1) := by decide +kernel
theorem d_Fi_length_14 : decode c0_Fi_length 14 = .ok (.lstore_n 3, 1) := by decide +kernel
theorem d_Fi_length_15 : decode c0_Fi_length 15 = .ok (.aload_n 0, 1) := by decide +kernel
theorem d_Fi_length_16 : decode c0_Fi_length 16 = .ok (.getfield 15, 3) := by decide +kernel
theorem d_Fi_length_19 : decode c0_Fi_length 19 = .ok (.iload_n 2, 1) := by decide +kernel
theorem d_Fi_length_20 : decode c0_Fi_length 20 = .ok (.iaload, 1) := by decide +kernel
theorem d_Fi_length_21 : decode c0_Fi_length 21 = .ok (.aload_n 0, 1) := by decide +kernel
theorem d_Fi_length_22 : decode c0_Fi_length 22 = .ok (.getfield 15, 3) := by decide +kernel
theorem d_Fi_length_25 : decode c0_Fi_length 25 = .ok (.iload_n 1, 1) := by decide +kernel
theorem d_Fi_length_26 : decode c0_Fi_length 26 = .ok (.iaload, 1) := by decide +kernel
theorem d_Fi_length_27 : decode c0_Fi_length 27 = .ok (.isub, 1) := by decide +kernel
theorem d_Fi_length_28 : decode c0_Fi_length 28 = .ok (.i2l, 1) := by decide +kernel
theorem d_Fi_length_29 : decode c0_Fi_length 29 = .ok (.lstore 5, 2) := by decide +kernel
theorem d_Fi_length_31 : decode c0_Fi_length 31 = .ok (.lload_n 3, 1) := by decide +kernel
theorem d_Fi_length_32 : decode c0_Fi_length 32 = .ok (.lload_n 3, 1) := by decide +kernel
theorem d_Fi_length_33 : decode c0_Fi_length 33 = .ok (.lmul, 1) := by decide +kernel
theorem d_Fi_length_34 : decode c0_Fi_length 34 = .ok (.lload 5, 2) := by decide +kernel
theorem d_Fi_length_36 : decode c0_Fi_length 36 = .ok (.lload 5, 2) := by decide +kernel
theorem d_Fi_length_38 : decode c0_Fi_length 38 = .ok (.lmul, 1) := by decide +kernel
theorem d_Fi_length_39 : decode c0_Fi_length 39 = .ok (.ladd, 1) := by decide +kernel
theorem d_Fi_length_40 : decode c0_Fi_length 40 = .ok (.ldc2_w 88, 3) := by decide +kernel
theorem d_Fi_length_43 : decode c0_Fi_length 43 = .ok (.lrem, 1) := by decide +kernel
theorem d_Fi_length_44 : decode c0_Fi_length 44 = .ok (.lreturn, 1) := by decide +kernel
def f_Fi_length (K : Nat → ClassId) (N : Nat) (o : Nat) (a1 : Int32) (a2 : Int32) (h0 : fh_H) : Option (Int64 × fh_H) :=
  (fg_a h0 (some o) 4 0).bind fun x1 => (fa_i (K 0) h0 x1 a2).bind fun x2 => (fg_a h0 (some o) 4 0).bind fun x3 => (fa_i (K 0) h0 x3 a1).bind fun x4 => (some ((x2 - x4).toInt64)).bind fun x5 => (fg_a h0 (some o) 4 1).bind fun x6 => (fa_i (K 0) h0 x6 a2).bind fun x7 => (fg_a h0 (some o) 4 1).bind fun x8 => (fa_i (K 0) h0 x8 a1).bind fun x9 => (some ((x7 - x9).toInt64)).bind fun x10 => some (fr_l ((x5 * x5) + (x10 * x10)) 1000003, h0)
set_option maxHeartbeats 4000000 in
set_option maxRecDepth 100000 in
theorem c_Fi_length {l : Launch} {D : va_G} {K : Nat → ClassId} {t : Nat → Nat} {N : Nat} {o : Nat} {a1 : Int32} {a2 : Int32} {h0 : fh_H} {res : Int64 × fh_H} (hf : f_Fi_length K N o a1 a2 h0 = some res) : fC l D K t y_Fi_length c0_Fi_length 7 (some .long) rm_Fi_length [.ref o, .int a1, .int a2] h0 (some (.long res.1)) res.2 := by
  refine fh_body (by decide) (Nat.le_of_ble_eq_true rfl) ?_
  intro p e s m below meth c A ls S hr hk hnm hE hAe hI hl
  obtain ⟨hx, hb, hml, hown, hts⟩ := id S
  have hl : lv_has ls 7 [(0, va_rf (some o)), (1, .int a1), (2, .int a2)] := hl
  unfold f_Fi_length at hf
  refine fh_aload_n S d_Fi_length_0 rfl (lv_at hl 0 rfl) ?_
  obtain ⟨x1, e_x1, hf⟩ := fh_b hf
  refine fh_geta S hE.1 hI e_x1 (hc := rfl) (hin := in_4) (by decide) (hts _ k_15) d_Fi_length_1 ?_
  refine lv_iload_n hx hb d_Fi_length_4 rfl (lv_at hl 2 rfl) ?_
  obtain ⟨x2, e_x2, hf⟩ := fh_b hf
  refine fh_iald S hE.1 hI 0 rfl e_x2 d_Fi_length_5 ?_
  refine fh_aload_n S d_Fi_length_6 rfl (lv_at hl 0 rfl) ?_
  obtain ⟨x3, e_x3, hf⟩ := fh_b hf
  refine fh_geta S hE.1 hI e_x3 (hc := rfl) (hin := in_4) (by decide) (hts _ k_15) d_Fi_length_7 ?_
  refine lv_iload_n hx hb d_Fi_length_10 rfl (lv_at hl 1 rfl) ?_
  obtain ⟨x4, e_x4, hf⟩ := fh_b hf
  refine fh_iald S hE.1 hI 0 rfl e_x4 d_Fi_length_11 ?_
  refine lv_isub hx hb d_Fi_length_12 ?_
  refine lv_i2l hx hb d_Fi_length_13 rfl ?_
  obtain ⟨x5, e_x5, hf⟩ := fh_b hf
  refine fh_topl e_x5 ?_
  refine lv_lstore_n (lv' := [(3, .long x5), (0, va_rf (some o)), (1, .int a1), (2, .int a2)]) hx hb d_Fi_length_14 rfl hl (by decide) rfl (fun ls hl => ?_)
  refine fh_aload_n S d_Fi_length_15 rfl (lv_at hl 1 rfl) ?_
  obtain ⟨x6, e_x6, hf⟩ := fh_b hf
  refine fh_geta S hE.1 hI e_x6 (hc := rfl) (hin := in_4) (by decide) (hts _ k_16) d_Fi_length_16 ?_
  refine lv_iload_n hx hb d_Fi_length_19 rfl (lv_at hl 3 rfl) ?_
  obtain ⟨x7, e_x7, hf⟩ := fh_b hf
  refine fh_iald S hE.1 hI 0 rfl e_x7 d_Fi_length_20 ?_
  refine fh_aload_n S d_Fi_length_21 rfl (lv_at hl 1 rfl) ?_
  obtain ⟨x8, e_x8, hf⟩ := fh_b hf
  refine fh_geta S hE.1 hI e_x8 (hc := rfl) (hin := in_4) (by decide) (hts _ k_16) d_Fi_length_22 ?_
  refine lv_iload_n hx hb d_Fi_length_25 rfl (lv_at hl 2 rfl) ?_
  obtain ⟨x9, e_x9, hf⟩ := fh_b hf
  refine fh_iald S hE.1 hI 0 rfl e_x9 d_Fi_length_26 ?_
  refine lv_isub hx hb d_Fi_length_27 ?_
  refine lv_i2l hx hb d_Fi_length_28 rfl ?_
  obtain ⟨x10, e_x10, hf⟩ := fh_b hf
  refine fh_topl e_x10 ?_
  refine lv_lstore (lv' := [(5, .long x10), (3, .long x5), (0, va_rf (some o)), (1, .int a1), (2, .int a2)]) hx hb d_Fi_length_29 hl (by decide) rfl (fun ls hl => ?_)
  refine lv_lload_n hx hb d_Fi_length_31 rfl (lv_at hl 1 rfl) ?_
  refine lv_lload_n hx hb d_Fi_length_32 rfl (lv_at hl 1 rfl) ?_
  refine lv_lmul hx hb d_Fi_length_33 ?_
  refine lv_lload hx hb d_Fi_length_34 (lv_at hl 0 rfl) ?_
  refine lv_lload hx hb d_Fi_length_36 (lv_at hl 0 rfl) ?_
  refine lv_lmul hx hb d_Fi_length_38 ?_
  refine lv_ladd hx hb d_Fi_length_39 ?_
  refine lv_ldc2 hx hb hown (hts _ k_9) d_Fi_length_40 ?_
  refine fh_lrem S d_Fi_length_43 (by decide) ?_
  obtain rfl := Option.some.inj hf
  exact fh_lret S hr hk hAe hI d_Fi_length_44
theorem d_FF_invert_0 : decode c0_FF_invert 0 = .ok (.lconst 1, 1) := by decide +kernel
theorem d_FF_invert_1 : decode c0_FF_invert 1 = .ok (.lstore_n 2, 1) := by decide +kernel
theorem d_FF_invert_2 : decode c0_FF_invert 2 = .ok (.lload_n 0, 1) := by decide +kernel
theorem d_FF_invert_3 : decode c0_FF_invert 3 = .ok (.ldc2_w 164, 3) := by decide +kernel
theorem d_FF_invert_6 : decode c0_FF_invert 6 = .ok (.lrem, 1) := by decide +kernel
theorem d_FF_invert_7 : decode c0_FF_invert 7 = .ok (.lstore 4, 2) := by decide +kernel
theorem d_FF_invert_9 : decode c0_FF_invert 9 = .ok (.ldc 166, 2) := by decide +kernel
theorem d_FF_invert_11 : decode c0_FF_invert 11 = .ok (.istore 6, 2) := by decide +kernel
theorem d_FF_invert_13 : decode c0_FF_invert 13 = .ok (.iload 6, 2) := by decide +kernel
theorem d_FF_invert_15 : decode c0_FF_invert 15 = .ok (.ifCond .le 40, 3) := by decide +kernel
theorem d_FF_invert_18 : decode c0_FF_invert 18 = .ok (.iload 6, 2) := by decide +kernel
theorem d_FF_invert_20 : decode c0_FF_invert 20 = .ok (.iconst 1, 1) := by decide +kernel
theorem d_FF_invert_21 : decode c0_FF_invert 21 = .ok (.iand, 1) := by decide +kernel
theorem d_FF_invert_22 : decode c0_FF_invert 22 = .ok (.iconst 1, 1) := by decide +kernel
theorem d_FF_invert_23 : decode c0_FF_invert 23 = .ok (.if_icmp .ne 12, 3) := by decide +kernel
theorem d_FF_invert_26 : decode c0_FF_invert 26 = .ok (.lload_n 2, 1) := by decide +kernel
theorem d_FF_invert_27 : decode c0_FF_invert 27 = .ok (.lload 4, 2) := by decide +kernel
theorem d_FF_invert_29 : decode c0_FF_invert 29 = .ok (.lmul, 1) := by decide +kernel
theorem d_FF_invert_30 : decode c0_FF_invert 30 = .ok (.ldc2_w 164, 3) := by decide +kernel
theorem d_FF_invert_33 : decode c0_FF_invert 33 = .ok (.lrem, 1) := by decide +kernel
theorem d_FF_invert_34 : decode c0_FF_invert 34 = .ok (.lstore_n 2, 1) := by decide +kernel
theorem d_FF_invert_35 : decode c0_FF_invert 35 = .ok (.lload 4, 2) := by decide +kernel
theorem d_FF_invert_37 : decode c0_FF_invert 37 = .ok (.lload 4, 2) := by decide +kernel
theorem d_FF_invert_39 : decode c0_FF_invert 39 = .ok (.lmul, 1) := by decide +kernel
theorem d_FF_invert_40 : decode c0_FF_invert 40 = .ok (.ldc2_w 164, 3) := by decide +kernel
theorem d_FF_invert_43 : decode c0_FF_invert 43 = .ok (.lrem, 1) := by decide +kernel
theorem d_FF_invert_44 : decode c0_FF_invert 44 = .ok (.lstore 4, 2) := by decide +kernel
theorem d_FF_invert_46 : decode c0_FF_invert 46 = .ok (.iload 6, 2) := by decide +kernel
theorem d_FF_invert_48 : decode c0_FF_invert 48 = .ok (.iconst 1, 1) := by decide +kernel
theorem d_FF_invert_49 : decode c0_FF_invert 49 = .ok (.ishr, 1) := by decide +kernel
theorem d_FF_invert_50 : decode c0_FF_invert 50 = .ok (.istore 6, 2) := by decide +kernel
theorem d_FF_invert_52 : decode c0_FF_invert 52 = .ok (.goto (-39), 3) := by decide +kernel
theorem d_FF_invert_55 : decode c0_FF_invert 55 = .ok (.lload_n 2, 1) := by decide +kernel
theorem d_FF_invert_56 : decode c0_FF_invert 56 = .ok (.lreturn, 1) := by decide +kernel
def b_FF_invert_35 (K : Nat → ClassId) (N : Nat) (k13 : Int64 → Int64 → Int32 → fh_H → Option (Int64 × fh_H)) (v2 : Int64) (v4 : Int64) (v6 : Int32) (h : fh_H) : Option (Int64 × fh_H) :=
  (some (fr_l (v4 * v4) 1000003)).bind fun x1 => (some (v6 >>> ((1 : Int32) &&& 31))).bind fun x2 => k13 v2 x1 x2 h
def b_FF_invert_13 (K : Nat → ClassId) (N : Nat) (k13 : Int64 → Int64 → Int32 → fh_H → Option (Int64 × fh_H)) (v2 : Int64) (v4 : Int64) (v6 : Int32) (h : fh_H) : Option (Int64 × fh_H) :=
  if v6 ≤ 0 then (some (v2, h)) else (if (v6 &&& 1) = 1 then ((some (fr_l (v2 * v4) 1000003)).bind fun x1 => b_FF_invert_35 K N k13 x1 v4 v6 h) else (b_FF_invert_35 K N k13 v2 v4 v6 h))
def l_FF_invert_13 (K : Nat → ClassId) (N : Nat) : Nat → Int64 → Int64 → Int32 → fh_H → Option (Int64 × fh_H)
  | 0, _, _, _, _ => none
  | n + 1, v2, v4, v6, h => b_FF_invert_13 K N (l_FF_invert_13 K N n) v2 v4 v6 h
def f_FF_invert (K : Nat → ClassId) (N : Nat) (a0 : Int64) (h0 : fh_H) : Option (Int64 × fh_H) :=
  (some (fr_l a0 1000003)).bind fun x1 => l_FF_invert_13 K N N 1 x1 1000001 h0
set_option maxHeartbeats 4000000 in
set_option maxRecDepth 100000 in
theorem c_FF_invert {l : Launch} {D : va_G} {K : Nat → ClassId} {t : Nat → Nat} {N : Nat} {a0 : Int64} {h0 : fh_H} {res : Int64 × fh_H} (hf : f_FF_invert K N a0 h0 = some res) : fC l D K t y_FF_invert c0_FF_invert 7 (some .long) rm_FF_invert [.long a0] h0 (some (.long res.1)) res.2 := by
  refine fh_body (by decide) (Nat.le_of_ble_eq_true rfl) ?_
  intro p e s m below meth c A ls S hr hk hnm hE hAe hI hl
  obtain ⟨hx, hb, hml, hown, hts⟩ := id S
  have hl : lv_has ls 7 [(0, .long a0)] := hl
  have L13 : ∀ (n13 : Nat) (v2 : Int64) (v4 : Int64) (v6 : Int32) (h : fh_H) (H : Heap) (locs : List Loc) (ls : Array Slot), lv_has ls 7 [(2, .long v2), (4, .long v4), (6, .int v6)] → fh_I D classes A s.heap h H locs → l_FF_invert_13 K N n13 v2 v4 v6 h = some res → W p l e rm_FF_invert s m [.long a0].toArray below meth c H locs 0 0 (MQ below (fh_Q D classes h0 s.heap.size (some (.long res.1)) res.2) [.long a0].toArray s 0 0 A) (F0 m 13 ls []) := by
    intro n13
    induction n13 with
    | zero =>
      intro v2 v4 v6 h H locs ls hl hI hf
      exact fh_no hf
    | succ n13 ih13 =>
      have B35 : ∀ (v2 : Int64) (v4 : Int64) (v6 : Int32) (h : fh_H) (H : Heap) (locs : List Loc) (ls : Array Slot), lv_has ls 7 [(2, .long v2), (4, .long v4), (6, .int v6)] → fh_I D classes A s.heap h H locs → b_FF_invert_35 K N (l_FF_invert_13 K N n13) v2 v4 v6 h = some res → W p l e rm_FF_invert s m [.long a0].toArray below meth c H locs 0 0 (MQ below (fh_Q D classes h0 s.heap.size (some (.long res.1)) res.2) [.long a0].toArray s 0 0 A) (F0 m 35 ls []) := by
        intro v2 v4 v6 h H locs ls hl hI hf
        unfold b_FF_invert_35 at hf
        refine lv_lload hx hb d_FF_invert_35 (lv_at hl 1 rfl) ?_
        refine lv_lload hx hb d_FF_invert_37 (lv_at hl 1 rfl) ?_
        refine lv_lmul hx hb d_FF_invert_39 ?_
        refine lv_ldc2 hx hb hown (hts _ k_17) d_FF_invert_40 ?_
        refine fh_lrem S d_FF_invert_43 (by decide) ?_
        obtain ⟨x1, e_x1, hf⟩ := fh_b hf
        refine fh_topl e_x1 ?_
        refine lv_lstore (lv' := [(4, .long x1), (2, .long v2), (6, .int v6)]) hx hb d_FF_invert_44 hl (by decide) rfl (fun ls hl => ?_)
        refine lv_iload hx hb d_FF_invert_46 (lv_at hl 2 rfl) ?_
        refine lv_iconst (v := 1) hx hb d_FF_invert_48 (by decide) ?_
        refine lv_ishr hx hb d_FF_invert_49 ?_
        obtain ⟨x2, e_x2, hf⟩ := fh_b hf
        refine fh_topi e_x2 ?_
        refine lv_istore (lv' := [(6, .int x2), (4, .long x1), (2, .long v2)]) hx hb d_FF_invert_50 hl (by decide) rfl (fun ls hl => ?_)
        refine lv_goto (tgt := 13) hx hb d_FF_invert_52 (by decide) ?_
        exact ih13 v2 x1 x2 h _ _ _ (lv_sub hl [2, 1, 0] rfl) hI hf
      intro v2 v4 v6 h H locs ls hl hI hf
      have hf : b_FF_invert_13 K N (l_FF_invert_13 K N n13) v2 v4 v6 h = some res := hf
      unfold b_FF_invert_13 at hf
      refine lv_iload hx hb d_FF_invert_13 (lv_at hl 2 rfl) ?_
      refine lv_if_le (tgt := 55) hx hb d_FF_invert_15 (by decide) (fun c_15 => ?_) (fun c_15 => ?_)
      · replace hf := fh_t c_15 hf
        refine lv_lload_n hx hb d_FF_invert_55 rfl (lv_at hl 0 rfl) ?_
        obtain rfl := Option.some.inj hf
        exact fh_lret S hr hk hAe hI d_FF_invert_56
      · replace hf := fh_f c_15 hf
        refine lv_iload hx hb d_FF_invert_18 (lv_at hl 2 rfl) ?_
        refine lv_iconst (v := 1) hx hb d_FF_invert_20 (by decide) ?_
        refine lv_iand hx hb d_FF_invert_21 ?_
        refine lv_iconst (v := 1) hx hb d_FF_invert_22 (by decide) ?_
        refine lv_icmp_ne (tgt := 35) hx hb d_FF_invert_23 (by decide) (fun c_23 => ?_) (fun c_23 => ?_)
        · replace hf := fh_f c_23 hf
          exact B35 v2 v4 v6 h _ _ _ (lv_sub hl [0, 1, 2] rfl) hI hf
        · replace hf := fh_t c_23 hf
          refine lv_lload_n hx hb d_FF_invert_26 rfl (lv_at hl 0 rfl) ?_
          refine lv_lload hx hb d_FF_invert_27 (lv_at hl 1 rfl) ?_
          refine lv_lmul hx hb d_FF_invert_29 ?_
          refine lv_ldc2 hx hb hown (hts _ k_17) d_FF_invert_30 ?_
          refine fh_lrem S d_FF_invert_33 (by decide) ?_
          obtain ⟨x1, e_x1, hf⟩ := fh_b hf
          refine fh_topl e_x1 ?_
          refine lv_lstore_n (lv' := [(2, .long x1), (4, .long v4), (6, .int v6)]) hx hb d_FF_invert_34 rfl hl (by decide) rfl (fun ls hl => ?_)
          exact B35 x1 v4 v6 h _ _ _ (lv_sub hl [0, 1, 2] rfl) hI hf
  unfold f_FF_invert at hf
  refine lv_lconst (v := 1) hx hb d_FF_invert_0 (by decide) ?_
  refine lv_lstore_n (lv' := [(2, .long 1), (0, .long a0)]) hx hb d_FF_invert_1 rfl hl (by decide) rfl (fun ls hl => ?_)
  refine lv_lload_n hx hb d_FF_invert_2 rfl (lv_at hl 1 rfl) ?_
  refine lv_ldc2 hx hb hown (hts _ k_17) d_FF_invert_3 ?_
  refine fh_lrem S d_FF_invert_6 (by decide) ?_
  obtain ⟨x1, e_x1, hf⟩ := fh_b hf
  refine fh_topl e_x1 ?_
  refine lv_lstore (lv' := [(4, .long x1), (2, .long 1), (0, .long a0)]) hx hb d_FF_invert_7 hl (by decide) rfl (fun ls hl => ?_)
  refine lv_ldc hx hb hown (hts _ k_18) d_FF_invert_9 ?_
  refine lv_istore (lv' := [(6, .int 1000001), (4, .long x1), (2, .long 1), (0, .long a0)]) hx hb d_FF_invert_11 hl (by decide) rfl (fun ls hl => ?_)
  exact L13 N 1 x1 1000001 h0 _ _ _ (lv_sub hl [2, 1, 0] rfl) hI hf
theorem d_Fi_findAlong_0 : decode c0_Fi_findAlong 0 = .ok (.aload_n 0, 1) := by decide +kernel
theorem d_Fi_findAlong_1 : decode c0_Fi_findAlong 1 = .ok (.aload_n 0, 1) := by decide +kernel
theorem d_Fi_findAlong_2 : decode c0_Fi_findAlong 2 = .ok (.getfield 9, 3) := by decide +kernel
theorem d_Fi_findAlong_5 : decode c0_Fi_findAlong 5 = .ok (.iload_n 1, 1) := by decide +kernel
theorem d_Fi_findAlong_6 : decode c0_Fi_findAlong 6 = .ok (.iaload, 1) := by decide +kernel
theorem d_Fi_findAlong_7 : decode c0_Fi_findAlong 7 = .ok (.i2l, 1) := by decide +kernel
theorem d_Fi_findAlong_8 : decode c0_Fi_findAlong 8 = .ok (.lload_n 3, 1) := by decide +kernel
theorem d_Fi_findAlong_9 : decode c0_Fi_findAlong 9 = .ok (.aload_n 0, 1) := by decide +kernel
theorem d_Fi_findAlong_10 : decode c0_Fi_findAlong 10 = .ok (.getfield 9, 3) := by decide +kernel
theorem d_Fi_findAlong_13 : decode c0_Fi_findAlong 13 = .ok (.iload_n 2, 1) := by decide +kernel
theorem d_Fi_findAlong_14 : decode c0_Fi_findAlong 14 = .ok (.iaload, 1) := by decide +kernel
theorem d_Fi_findAlong_15 : decode c0_Fi_findAlong 15 = .ok (.aload_n 0, 1) := by decide +kernel
theorem d_Fi_findAlong_16 : decode c0_Fi_findAlong 16 = .ok (.getfield 9, 3) := by decide +kernel
theorem d_Fi_findAlong_19 : decode c0_Fi_findAlong 19 = .ok (.iload_n 1, 1) := by decide +kernel
theorem d_Fi_findAlong_20 : decode c0_Fi_findAlong 20 = .ok (.iaload, 1) := by decide +kernel
theorem d_Fi_findAlong_21 : decode c0_Fi_findAlong 21 = .ok (.isub, 1) := by decide +kernel
theorem d_Fi_findAlong_22 : decode c0_Fi_findAlong 22 = .ok (.i2l, 1) := by decide +kernel
theorem d_Fi_findAlong_23 : decode c0_Fi_findAlong 23 = .ok (.lmul, 1) := by decide +kernel
theorem d_Fi_findAlong_24 : decode c0_Fi_findAlong 24 = .ok (.ladd, 1) := by decide +kernel
theorem d_Fi_findAlong_25 : decode c0_Fi_findAlong 25 = .ok (.aload_n 0, 1) := by decide +kernel
theorem d_Fi_findAlong_26 : decode c0_Fi_findAlong 26 = .ok (.getfield 15, 3) := by decide +kernel
theorem d_Fi_findAlong_29 : decode c0_Fi_findAlong 29 = .ok (.iload_n 1, 1) := by decide +kernel
theorem d_Fi_findAlong_30 : decode c0_Fi_findAlong 30 = .ok (.iaload, 1) := by decide +kernel
theorem d_Fi_findAlong_31 : decode c0_Fi_findAlong 31 = .ok (.i2l, 1) := by decide +kernel
theorem d_Fi_findAlong_32 : decode c0_Fi_findAlong 32 = .ok (.lload_n 3, 1) := by decide +kernel
theorem d_Fi_findAlong_33 : decode c0_Fi_findAlong 33 = .ok (.aload_n 0, 1) := by decide +kernel
theorem d_Fi_findAlong_34 : decode c0_Fi_findAlong 34 = .ok (.getfield 15, 3) := by decide +kernel
theorem d_Fi_findAlong_37 : decode c0_Fi_findAlong 37 = .ok (.iload_n 2, 1) := by decide +kernel
theorem d_Fi_findAlong_38 : decode c0_Fi_findAlong 38 = .ok (.iaload, 1) := by decide +kernel
theorem d_Fi_findAlong_39 : decode c0_Fi_findAlong 39 = .ok (.aload_n 0, 1) := by decide +kernel
theorem d_Fi_findAlong_40 : decode c0_Fi_findAlong 40 = .ok (.getfield 15, 3) := by decide +kernel
theorem d_Fi_findAlong_43 : decode c0_Fi_findAlong 43 = .ok (.iload_n 1, 1) := by decide +kernel
theorem d_Fi_findAlong_44 : decode c0_Fi_findAlong 44 = .ok (.iaload, 1) := by decide +kernel
theorem d_Fi_findAlong_45 : decode c0_Fi_findAlong 45 = .ok (.isub, 1) := by decide +kernel
theorem d_Fi_findAlong_46 : decode c0_Fi_findAlong 46 = .ok (.i2l, 1) := by decide +kernel
theorem d_Fi_findAlong_47 : decode c0_Fi_findAlong 47 = .ok (.lmul, 1) := by decide +kernel
theorem d_Fi_findAlong_48 : decode c0_Fi_findAlong 48 = .ok (.ladd, 1) := by decide +kernel
theorem d_Fi_findAlong_49 : decode c0_Fi_findAlong 49 = .ok (.invokevirtual 57, 3) := by decide +kernel
theorem d_Fi_findAlong_52 : decode c0_Fi_findAlong 52 = .ok (.ireturn, 1) := by decide +kernel
def f_Fi_findAlong (K : Nat → ClassId) (N : Nat) (o : Nat) (a1 : Int32) (a2 : Int32) (a3 : Int64) (h0 : fh_H) : Option (Int32 × fh_H) :=
  (fg_a h0 (some o) 4 0).bind fun x1 => (fa_i (K 0) h0 x1 a1).bind fun x2 => (fg_a h0 (some o) 4 0).bind fun x3 => (fa_i (K 0) h0 x3 a2).bind fun x4 => (fg_a h0 (some o) 4 0).bind fun x5 => (fa_i (K 0) h0 x5 a1).bind fun x6 => (fg_a h0 (some o) 4 1).bind fun x7 => (fa_i (K 0) h0 x7 a1).bind fun x8 => (fg_a h0 (some o) 4 1).bind fun x9 => (fa_i (K 0) h0 x9 a2).bind fun x10 => (fg_a h0 (some o) 4 1).bind fun x11 => (fa_i (K 0) h0 x11 a1).bind fun x12 => (fg_o h0 (some o) 4).bind fun o13 => (f_Fi_found K N o13 (x2.toInt64 + (a3 * ((x4 - x6).toInt64))) (x8.toInt64 + (a3 * ((x10 - x12).toInt64))) h0).bind fun r14 => fz r14.1 r14.2
set_option maxHeartbeats 4000000 in
set_option maxRecDepth 100000 in
theorem c_Fi_findAlong {l : Launch} {D : va_G} {K : Nat → ClassId} {t : Nat → Nat} {N : Nat} {o : Nat} {a1 : Int32} {a2 : Int32} {a3 : Int64} {h0 : fh_H} {res : Int32 × fh_H} (hf : f_Fi_findAlong K N o a1 a2 a3 h0 = some res) : fC l D K t y_Fi_findAlong c0_Fi_findAlong 5 (some .boolean) rm_Fi_findAlong [.ref o, .int a1, .int a2, .long a3] h0 (some (.int res.1)) res.2 := by
  refine fh_body (by decide) (Nat.le_of_ble_eq_true rfl) ?_
  intro p e s m below meth c A ls S hr hk hnm hE hAe hI hl
  obtain ⟨hx, hb, hml, hown, hts⟩ := id S
  have hl : lv_has ls 5 [(0, va_rf (some o)), (1, .int a1), (2, .int a2), (3, .long a3)] := hl
  unfold f_Fi_findAlong at hf
  refine fh_aload_n S d_Fi_findAlong_0 rfl (lv_at hl 0 rfl) ?_
  refine fh_aload_n S d_Fi_findAlong_1 rfl (lv_at hl 0 rfl) ?_
  obtain ⟨x1, e_x1, hf⟩ := fh_b hf
  refine fh_geta S hE.1 hI e_x1 (hc := rfl) (hin := in_4) (by decide) (hts _ k_15) d_Fi_findAlong_2 ?_
  refine lv_iload_n hx hb d_Fi_findAlong_5 rfl (lv_at hl 1 rfl) ?_
  obtain ⟨x2, e_x2, hf⟩ := fh_b hf
  refine fh_iald S hE.1 hI 0 rfl e_x2 d_Fi_findAlong_6 ?_
  refine lv_i2l hx hb d_Fi_findAlong_7 rfl ?_
  refine lv_lload_n hx hb d_Fi_findAlong_8 rfl (lv_at hl 3 rfl) ?_
  refine fh_aload_n S d_Fi_findAlong_9 rfl (lv_at hl 0 rfl) ?_
  obtain ⟨x3, e_x3, hf⟩ := fh_b hf
  refine fh_geta S hE.1 hI e_x3 (hc := rfl) (hin := in_4) (by decide) (hts _ k_15) d_Fi_findAlong_10 ?_
  refine lv_iload_n hx hb d_Fi_findAlong_13 rfl (lv_at hl 2 rfl) ?_
  obtain ⟨x4, e_x4, hf⟩ := fh_b hf
  refine fh_iald S hE.1 hI 0 rfl e_x4 d_Fi_findAlong_14 ?_
  refine fh_aload_n S d_Fi_findAlong_15 rfl (lv_at hl 0 rfl) ?_
  obtain ⟨x5, e_x5, hf⟩ := fh_b hf
  refine fh_geta S hE.1 hI e_x5 (hc := rfl) (hin := in_4) (by decide) (hts _ k_15) d_Fi_findAlong_16 ?_
  refine lv_iload_n hx hb d_Fi_findAlong_19 rfl (lv_at hl 1 rfl) ?_
  obtain ⟨x6, e_x6, hf⟩ := fh_b hf
  refine fh_iald S hE.1 hI 0 rfl e_x6 d_Fi_findAlong_20 ?_
  refine lv_isub hx hb d_Fi_findAlong_21 ?_
  refine lv_i2l hx hb d_Fi_findAlong_22 rfl ?_
  refine lv_lmul hx hb d_Fi_findAlong_23 ?_
  refine lv_ladd hx hb d_Fi_findAlong_24 ?_
  refine fh_aload_n S d_Fi_findAlong_25 rfl (lv_at hl 0 rfl) ?_
  obtain ⟨x7, e_x7, hf⟩ := fh_b hf
  refine fh_geta S hE.1 hI e_x7 (hc := rfl) (hin := in_4) (by decide) (hts _ k_16) d_Fi_findAlong_26 ?_
  refine lv_iload_n hx hb d_Fi_findAlong_29 rfl (lv_at hl 1 rfl) ?_
  obtain ⟨x8, e_x8, hf⟩ := fh_b hf
  refine fh_iald S hE.1 hI 0 rfl e_x8 d_Fi_findAlong_30 ?_
  refine lv_i2l hx hb d_Fi_findAlong_31 rfl ?_
  refine lv_lload_n hx hb d_Fi_findAlong_32 rfl (lv_at hl 3 rfl) ?_
  refine fh_aload_n S d_Fi_findAlong_33 rfl (lv_at hl 0 rfl) ?_
  obtain ⟨x9, e_x9, hf⟩ := fh_b hf
  refine fh_geta S hE.1 hI e_x9 (hc := rfl) (hin := in_4) (by decide) (hts _ k_16) d_Fi_findAlong_34 ?_
  refine lv_iload_n hx hb d_Fi_findAlong_37 rfl (lv_at hl 2 rfl) ?_
  obtain ⟨x10, e_x10, hf⟩ := fh_b hf
  refine fh_iald S hE.1 hI 0 rfl e_x10 d_Fi_findAlong_38 ?_
  refine fh_aload_n S d_Fi_findAlong_39 rfl (lv_at hl 0 rfl) ?_
  obtain ⟨x11, e_x11, hf⟩ := fh_b hf
  refine fh_geta S hE.1 hI e_x11 (hc := rfl) (hin := in_4) (by decide) (hts _ k_16) d_Fi_findAlong_40 ?_
  refine lv_iload_n hx hb d_Fi_findAlong_43 rfl (lv_at hl 1 rfl) ?_
  obtain ⟨x12, e_x12, hf⟩ := fh_b hf
  refine fh_iald S hE.1 hI 0 rfl e_x12 d_Fi_findAlong_44 ?_
  refine lv_isub hx hb d_Fi_findAlong_45 ?_
  refine lv_i2l hx hb d_Fi_findAlong_46 rfl ?_
  refine lv_lmul hx hb d_Fi_findAlong_47 ?_
  refine lv_ladd hx hb d_Fi_findAlong_48 ?_
  obtain ⟨o13, e_o13, hf⟩ := fh_b hf
  obtain ⟨r14, e_r14, hf⟩ := fh_b hf
  refine fh_callV (As := [.long (x2.toInt64 + (a3 * ((x4 - x6).toInt64))), .long (x8.toInt64 + (a3 * ((x10 - x12).toInt64)))]) (rest := []) S fT_good hE hI e_o13 rfl (c_Fi_found e_r14) fy_Fi_found fst_Fi_found k_14 ⟨rfl, rfl⟩ ⟨Nat.le_of_ble_eq_true rfl, Nat.le_of_ble_eq_true rfl⟩ ⟨Nat.zero_le _, Nat.zero_le _⟩ rfl hl.1 rfl (Nat.le_of_ble_eq_true rfl) d_Fi_findAlong_49 (fun H locs hI => ?_)
  obtain ⟨hz, rfl⟩ := fz_s hf
  exact fh_iret S hr hk (fh_nb hz) hAe hI d_Fi_findAlong_52
theorem d_Fi_findFoot_0 : decode c0_Fi_findFoot 0 = .ok (.aload_n 0, 1) := by decide +kernel
theorem d_Fi_findFoot_1 : decode c0_Fi_findFoot 1 = .ok (.iload_n 3, 1) := by decide +kernel
theorem d_Fi_findFoot_2 : decode c0_Fi_findFoot 2 = .ok (.iload 4, 2) := by decide +kernel
theorem d_Fi_findFoot_4 : decode c0_Fi_findFoot 4 = .ok (.invokevirtual 95, 3) := by decide +kernel
theorem d_Fi_findFoot_7 : decode c0_Fi_findFoot 7 = .ok (.lstore 5, 2) := by decide +kernel
theorem d_Fi_findFoot_9 : decode c0_Fi_findFoot 9 = .ok (.lload 5, 2) := by decide +kernel
theorem d_Fi_findFoot_11 : decode c0_Fi_findFoot 11 = .ok (.lconst 0, 1) := by decide +kernel
theorem d_Fi_findFoot_12 : decode c0_Fi_findFoot 12 = .ok (.lcmp, 1) := by decide +kernel
theorem d_Fi_findFoot_13 : decode c0_Fi_findFoot 13 = .ok (.ifCond .ne 5, 3) := by decide +kernel
theorem d_Fi_findFoot_16 : decode c0_Fi_findFoot 16 = .ok (.iconst 0, 1) := by decide +kernel
theorem d_Fi_findFoot_17 : decode c0_Fi_findFoot 17 = .ok (.ireturn, 1) := by decide +kernel
theorem d_Fi_findFoot_18 : decode c0_Fi_findFoot 18 = .ok (.iload_n 1, 1) := by decide +kernel
theorem d_Fi_findFoot_19 : decode c0_Fi_findFoot 19 = .ok (.aload_n 0, 1) := by decide +kernel
theorem d_Fi_findFoot_20 : decode c0_Fi_findFoot 20 = .ok (.getfield 9, 3) := by decide +kernel
theorem d_Fi_findFoot_23 : decode c0_Fi_findFoot 23 = .ok (.iload_n 3, 1) := by decide +kernel
theorem d_Fi_findFoot_24 : decode c0_Fi_findFoot 24 = .ok (.iaload, 1) := by decide +kernel
theorem d_Fi_findFoot_25 : decode c0_Fi_findFoot 25 = .ok (.isub, 1) := by decide +kernel
theorem d_Fi_findFoot_26 : decode c0_Fi_findFoot 26 = .ok (.i2l, 1) := by decide +kernel
theorem d_Fi_findFoot_27 : decode c0_Fi_findFoot 27 = .ok (.aload_n 0, 1) := by decide +kernel
theorem d_Fi_findFoot_28 : decode c0_Fi_findFoot 28 = .ok (.getfield 9, 3) := by decide +kernel
theorem d_Fi_findFoot_31 : decode c0_Fi_findFoot 31 = .ok (.iload 4, 2) := by decide +kernel
theorem d_Fi_findFoot_33 : decode c0_Fi_findFoot 33 = .ok (.iaload, 1) := by decide +kernel
theorem d_Fi_findFoot_34 : decode c0_Fi_findFoot 34 = .ok (.aload_n 0, 1) := by decide +kernel
theorem d_Fi_findFoot_35 : decode c0_Fi_findFoot 35 = .ok (.getfield 9, 3) := by decide +kernel
theorem d_Fi_findFoot_38 : decode c0_Fi_findFoot 38 = .ok (.iload_n 3, 1) := by decide +kernel
theorem d_Fi_findFoot_39 : decode c0_Fi_findFoot 39 = .ok (.iaload, 1) := by decide +kernel
theorem d_Fi_findFoot_40 : decode c0_Fi_findFoot 40 = .ok (.isub, 1) := by decide +kernel
theorem d_Fi_findFoot_41 : decode c0_Fi_findFoot 41 = .ok (.i2l, 1) := by decide +kernel
theorem d_Fi_findFoot_42 : decode c0_Fi_findFoot 42 = .ok (.lmul, 1) := by decide +kernel
theorem d_Fi_findFoot_43 : decode c0_Fi_findFoot 43 = .ok (.iload_n 2, 1) := by decide +kernel
theorem d_Fi_findFoot_44 : decode c0_Fi_findFoot 44 = .ok (.aload_n 0, 1) := by decide +kernel
theorem d_Fi_findFoot_45 : decode c0_Fi_findFoot 45 = .ok (.getfield 15, 3) := by decide +kernel
theorem d_Fi_findFoot_48 : decode c0_Fi_findFoot 48 = .ok (.iload_n 3, 1) := by decide +kernel
theorem d_Fi_findFoot_49 : decode c0_Fi_findFoot 49 = .ok (.iaload, 1) := by decide +kernel
theorem d_Fi_findFoot_50 : decode c0_Fi_findFoot 50 = .ok (.isub, 1) := by decide +kernel
theorem d_Fi_findFoot_51 : decode c0_Fi_findFoot 51 = .ok (.i2l, 1) := by decide +kernel
theorem d_Fi_findFoot_52 : decode c0_Fi_findFoot 52 = .ok (.aload_n 0, 1) := by decide +kernel
theorem d_Fi_findFoot_53 : decode c0_Fi_findFoot 53 = .ok (.getfield 15, 3) := by decide +kernel
theorem d_Fi_findFoot_56 : decode c0_Fi_findFoot 56 = .ok (.iload 4, 2) := by decide +kernel
theorem d_Fi_findFoot_58 : decode c0_Fi_findFoot 58 = .ok (.iaload, 1) := by decide +kernel
theorem d_Fi_findFoot_59 : decode c0_Fi_findFoot 59 = .ok (.aload_n 0, 1) := by decide +kernel
theorem d_Fi_findFoot_60 : decode c0_Fi_findFoot 60 = .ok (.getfield 15, 3) := by decide +kernel
theorem d_Fi_findFoot_63 : decode c0_Fi_findFoot 63 = .ok (.iload_n 3, 1) := by decide +kernel
theorem d_Fi_findFoot_64 : decode c0_Fi_findFoot 64 = .ok (.iaload, 1) := by decide +kernel
theorem d_Fi_findFoot_65 : decode c0_Fi_findFoot 65 = .ok (.isub, 1) := by decide +kernel
theorem d_Fi_findFoot_66 : decode c0_Fi_findFoot 66 = .ok (.i2l, 1) := by decide +kernel
theorem d_Fi_findFoot_67 : decode c0_Fi_findFoot 67 = .ok (.lmul, 1) := by decide +kernel
theorem d_Fi_findFoot_68 : decode c0_Fi_findFoot 68 = .ok (.ladd, 1) := by decide +kernel
theorem d_Fi_findFoot_69 : decode c0_Fi_findFoot 69 = .ok (.lstore 7, 2) := by decide +kernel
theorem d_Fi_findFoot_71 : decode c0_Fi_findFoot 71 = .ok (.aload_n 0, 1) := by decide +kernel
theorem d_Fi_findFoot_72 : decode c0_Fi_findFoot 72 = .ok (.iload_n 3, 1) := by decide +kernel
theorem d_Fi_findFoot_73 : decode c0_Fi_findFoot 73 = .ok (.iload 4, 2) := by decide +kernel
theorem d_Fi_findFoot_75 : decode c0_Fi_findFoot 75 = .ok (.lload 7, 2) := by decide +kernel
theorem d_Fi_findFoot_77 : decode c0_Fi_findFoot 77 = .ok (.ldc2_w 88, 3) := by decide +kernel
theorem d_Fi_findFoot_80 : decode c0_Fi_findFoot 80 = .ok (.lrem, 1) := by decide +kernel
theorem d_Fi_findFoot_81 : decode c0_Fi_findFoot 81 = .ok (.lload 5, 2) := by decide +kernel
theorem d_Fi_findFoot_83 : decode c0_Fi_findFoot 83 = .ok (.invokestatic 99, 3) := by decide +kernel
theorem d_Fi_findFoot_86 : decode c0_Fi_findFoot 86 = .ok (.lmul, 1) := by decide +kernel
theorem d_Fi_findFoot_87 : decode c0_Fi_findFoot 87 = .ok (.ldc2_w 88, 3) := by decide +kernel
theorem d_Fi_findFoot_90 : decode c0_Fi_findFoot 90 = .ok (.lrem, 1) := by decide +kernel
theorem d_Fi_findFoot_91 : decode c0_Fi_findFoot 91 = .ok (.invokevirtual 76, 3) := by decide +kernel
theorem d_Fi_findFoot_94 : decode c0_Fi_findFoot 94 = .ok (.ireturn, 1) := by decide +kernel
def f_Fi_findFoot (K : Nat → ClassId) (N : Nat) (o : Nat) (a1 : Int32) (a2 : Int32) (a3 : Int32) (a4 : Int32) (h0 : fh_H) : Option (Int32 × fh_H) :=
  (fg_o h0 (some o) 4).bind fun o1 => (f_Fi_length K N o1 a3 a4 h0).bind fun r2 => if (lg_cmp r2.1 0) = 0 then (some (0, r2.2)) else ((fg_a r2.2 (some o) 4 0).bind fun x3 => (fa_i (K 0) r2.2 x3 a3).bind fun x4 => (fg_a r2.2 (some o) 4 0).bind fun x5 => (fa_i (K 0) r2.2 x5 a4).bind fun x6 => (fg_a r2.2 (some o) 4 0).bind fun x7 => (fa_i (K 0) r2.2 x7 a3).bind fun x8 => (fg_a r2.2 (some o) 4 1).bind fun x9 => (fa_i (K 0) r2.2 x9 a3).bind fun x10 => (fg_a r2.2 (some o) 4 1).bind fun x11 => (fa_i (K 0) r2.2 x11 a4).bind fun x12 => (fg_a r2.2 (some o) 4 1).bind fun x13 => (fa_i (K 0) r2.2 x13 a3).bind fun x14 => (some ((((a1 - x4).toInt64) * ((x6 - x8).toInt64)) + (((a2 - x10).toInt64) * ((x12 - x14).toInt64)))).bind fun x15 => (f_FF_invert K N r2.1 r2.2).bind fun r16 => (fg_o r16.2 (some o) 4).bind fun o17 => (f_Fi_findAlong K N o17 a3 a4 (fr_l ((fr_l x15 1000003) * r16.1) 1000003) r16.2).bind fun r18 => fz r18.1 r18.2)
set_option maxHeartbeats 4000000 in
set_option maxRecDepth 100000 in
theorem c_Fi_findFoot {l : Launch} {D : va_G} {K : Nat → ClassId} {t : Nat → Nat} {N : Nat} {o : Nat} {a1 : Int32} {a2 : Int32} {a3 : Int32} {a4 : Int32} {h0 : fh_H} {res : Int32 × fh_H} (hf : f_Fi_findFoot K N o a1 a2 a3 a4 h0 = some res) : fC l D K t y_Fi_findFoot c0_Fi_findFoot 9 (some .boolean) rm_Fi_findFoot [.ref o, .int a1, .int a2, .int a3, .int a4] h0 (some (.int res.1)) res.2 := by
  refine fh_body (by decide) (Nat.le_of_ble_eq_true rfl) ?_
  intro p e s m below meth c A ls S hr hk hnm hE hAe hI hl
  obtain ⟨hx, hb, hml, hown, hts⟩ := id S
  have hl : lv_has ls 9 [(0, va_rf (some o)), (1, .int a1), (2, .int a2), (3, .int a3), (4, .int a4)] := hl
  unfold f_Fi_findFoot at hf
  refine fh_aload_n S d_Fi_findFoot_0 rfl (lv_at hl 0 rfl) ?_
  refine lv_iload_n hx hb d_Fi_findFoot_1 rfl (lv_at hl 3 rfl) ?_
  refine lv_iload hx hb d_Fi_findFoot_2 (lv_at hl 4 rfl) ?_
  obtain ⟨o1, e_o1, hf⟩ := fh_b hf
  obtain ⟨r2, e_r2, hf⟩ := fh_b hf
  refine fh_callV (As := [.int a3, .int a4]) (rest := []) S fT_good hE hI e_o1 rfl (c_Fi_length e_r2) fy_Fi_length fst_Fi_length k_19 ⟨rfl, rfl⟩ ⟨Nat.le_of_ble_eq_true rfl, Nat.le_of_ble_eq_true rfl⟩ ⟨Nat.zero_le _, Nat.zero_le _⟩ rfl hl.1 rfl (Nat.le_of_ble_eq_true rfl) d_Fi_findFoot_4 (fun H locs hI => ?_)
  refine lv_lstore (lv' := [(5, .long r2.1), (0, va_rf (some o)), (1, .int a1), (2, .int a2), (3, .int a3), (4, .int a4)]) hx hb d_Fi_findFoot_7 hl (by decide) rfl (fun ls hl => ?_)
  refine lv_lload hx hb d_Fi_findFoot_9 (lv_at hl 0 rfl) ?_
  refine lv_lconst (v := 0) hx hb d_Fi_findFoot_11 (by decide) ?_
  refine W.lcmp hx hb d_Fi_findFoot_12 ?_
  refine lv_if_ne (tgt := 18) hx hb d_Fi_findFoot_13 (by decide) (fun c_13 => ?_) (fun c_13 => ?_)
  · replace hf := fh_f c_13 hf
    refine lv_iload_n hx hb d_Fi_findFoot_18 rfl (lv_at hl 2 rfl) ?_
    refine fh_aload_n S d_Fi_findFoot_19 rfl (lv_at hl 1 rfl) ?_
    obtain ⟨x3, e_x3, hf⟩ := fh_b hf
    refine fh_geta S hE.1 hI e_x3 (hc := rfl) (hin := in_4) (by decide) (hts _ k_15) d_Fi_findFoot_20 ?_
    refine lv_iload_n hx hb d_Fi_findFoot_23 rfl (lv_at hl 4 rfl) ?_
    obtain ⟨x4, e_x4, hf⟩ := fh_b hf
    refine fh_iald S hE.1 hI 0 rfl e_x4 d_Fi_findFoot_24 ?_
    refine lv_isub hx hb d_Fi_findFoot_25 ?_
    refine lv_i2l hx hb d_Fi_findFoot_26 rfl ?_
    refine fh_aload_n S d_Fi_findFoot_27 rfl (lv_at hl 1 rfl) ?_
    obtain ⟨x5, e_x5, hf⟩ := fh_b hf
    refine fh_geta S hE.1 hI e_x5 (hc := rfl) (hin := in_4) (by decide) (hts _ k_15) d_Fi_findFoot_28 ?_
    refine lv_iload hx hb d_Fi_findFoot_31 (lv_at hl 5 rfl) ?_
    obtain ⟨x6, e_x6, hf⟩ := fh_b hf
    refine fh_iald S hE.1 hI 0 rfl e_x6 d_Fi_findFoot_33 ?_
    refine fh_aload_n S d_Fi_findFoot_34 rfl (lv_at hl 1 rfl) ?_
    obtain ⟨x7, e_x7, hf⟩ := fh_b hf
    refine fh_geta S hE.1 hI e_x7 (hc := rfl) (hin := in_4) (by decide) (hts _ k_15) d_Fi_findFoot_35 ?_
    refine lv_iload_n hx hb d_Fi_findFoot_38 rfl (lv_at hl 4 rfl) ?_
    obtain ⟨x8, e_x8, hf⟩ := fh_b hf
    refine fh_iald S hE.1 hI 0 rfl e_x8 d_Fi_findFoot_39 ?_
    refine lv_isub hx hb d_Fi_findFoot_40 ?_
    refine lv_i2l hx hb d_Fi_findFoot_41 rfl ?_
    refine lv_lmul hx hb d_Fi_findFoot_42 ?_
    refine lv_iload_n hx hb d_Fi_findFoot_43 rfl (lv_at hl 3 rfl) ?_
    refine fh_aload_n S d_Fi_findFoot_44 rfl (lv_at hl 1 rfl) ?_
    obtain ⟨x9, e_x9, hf⟩ := fh_b hf
    refine fh_geta S hE.1 hI e_x9 (hc := rfl) (hin := in_4) (by decide) (hts _ k_16) d_Fi_findFoot_45 ?_
    refine lv_iload_n hx hb d_Fi_findFoot_48 rfl (lv_at hl 4 rfl) ?_
    obtain ⟨x10, e_x10, hf⟩ := fh_b hf
    refine fh_iald S hE.1 hI 0 rfl e_x10 d_Fi_findFoot_49 ?_
    refine lv_isub hx hb d_Fi_findFoot_50 ?_
    refine lv_i2l hx hb d_Fi_findFoot_51 rfl ?_
    refine fh_aload_n S d_Fi_findFoot_52 rfl (lv_at hl 1 rfl) ?_
    obtain ⟨x11, e_x11, hf⟩ := fh_b hf
    refine fh_geta S hE.1 hI e_x11 (hc := rfl) (hin := in_4) (by decide) (hts _ k_16) d_Fi_findFoot_53 ?_
    refine lv_iload hx hb d_Fi_findFoot_56 (lv_at hl 5 rfl) ?_
    obtain ⟨x12, e_x12, hf⟩ := fh_b hf
    refine fh_iald S hE.1 hI 0 rfl e_x12 d_Fi_findFoot_58 ?_
    refine fh_aload_n S d_Fi_findFoot_59 rfl (lv_at hl 1 rfl) ?_
    obtain ⟨x13, e_x13, hf⟩ := fh_b hf
    refine fh_geta S hE.1 hI e_x13 (hc := rfl) (hin := in_4) (by decide) (hts _ k_16) d_Fi_findFoot_60 ?_
    refine lv_iload_n hx hb d_Fi_findFoot_63 rfl (lv_at hl 4 rfl) ?_
    obtain ⟨x14, e_x14, hf⟩ := fh_b hf
    refine fh_iald S hE.1 hI 0 rfl e_x14 d_Fi_findFoot_64 ?_
    refine lv_isub hx hb d_Fi_findFoot_65 ?_
    refine lv_i2l hx hb d_Fi_findFoot_66 rfl ?_
    refine lv_lmul hx hb d_Fi_findFoot_67 ?_
    refine lv_ladd hx hb d_Fi_findFoot_68 ?_
    obtain ⟨x15, e_x15, hf⟩ := fh_b hf
    refine fh_topl e_x15 ?_
    refine lv_lstore (lv' := [(7, .long x15), (5, .long r2.1), (0, va_rf (some o)), (1, .int a1), (2, .int a2), (3, .int a3), (4, .int a4)]) hx hb d_Fi_findFoot_69 hl (by decide) rfl (fun ls hl => ?_)
    refine fh_aload_n S d_Fi_findFoot_71 rfl (lv_at hl 2 rfl) ?_
    refine lv_iload_n hx hb d_Fi_findFoot_72 rfl (lv_at hl 5 rfl) ?_
    refine lv_iload hx hb d_Fi_findFoot_73 (lv_at hl 6 rfl) ?_
    refine lv_lload hx hb d_Fi_findFoot_75 (lv_at hl 0 rfl) ?_
    refine lv_ldc2 hx hb hown (hts _ k_9) d_Fi_findFoot_77 ?_
    refine fh_lrem S d_Fi_findFoot_80 (by decide) ?_
    refine lv_lload hx hb d_Fi_findFoot_81 (lv_at hl 1 rfl) ?_
    obtain ⟨r16, e_r16, hf⟩ := fh_b hf
    refine fh_callSN (As := [.long r2.1]) (rest := [.long (fr_l x15 1000003), .int a4, .int a3, va_rf (some o)]) S fT_good hE hI (c_FF_invert e_r16) fy_FF_invert fst_FF_invert kn_0 ⟨rfl, rfl⟩ ⟨Nat.le_of_ble_eq_true rfl, Nat.le_of_ble_eq_true rfl⟩ ⟨Nat.zero_le _, Nat.zero_le _⟩ rfl hl.1 rfl (Nat.le_of_ble_eq_true rfl) d_Fi_findFoot_83 (fun H locs hI => ?_)
    refine lv_lmul hx hb d_Fi_findFoot_86 ?_
    refine lv_ldc2 hx hb hown (hts _ k_9) d_Fi_findFoot_87 ?_
    refine fh_lrem S d_Fi_findFoot_90 (by decide) ?_
    obtain ⟨o17, e_o17, hf⟩ := fh_b hf
    obtain ⟨r18, e_r18, hf⟩ := fh_b hf
    refine fh_callV (As := [.int a3, .int a4, .long (fr_l ((fr_l x15 1000003) * r16.1) 1000003)]) (rest := []) S fT_good hE hI e_o17 rfl (c_Fi_findAlong e_r18) fy_Fi_findAlong fst_Fi_findAlong k_20 ⟨rfl, rfl⟩ ⟨Nat.le_of_ble_eq_true rfl, Nat.le_of_ble_eq_true rfl⟩ ⟨Nat.zero_le _, Nat.zero_le _⟩ rfl hl.1 rfl (Nat.le_of_ble_eq_true rfl) d_Fi_findFoot_91 (fun H locs hI => ?_)
    obtain ⟨hz, rfl⟩ := fz_s hf
    exact fh_iret S hr hk (fh_nb hz) hAe hI d_Fi_findFoot_94
  · replace hf := fh_t c_13 hf
    refine lv_iconst (v := 0) hx hb d_Fi_findFoot_16 (by decide) ?_
    obtain rfl := Option.some.inj hf
    exact fh_iret S hr hk (fh_nb (Or.inl rfl)) hAe hI d_Fi_findFoot_17
theorem d_Fi_cross_0 : decode c0_Fi_cross 0 = .ok (.aload_n 0, 1) := by decide +kernel
theorem d_Fi_cross_1 : decode c0_Fi_cross 1 = .ok (.getfield 9, 3) := by decide +kernel
theorem d_Fi_cross_4 : decode c0_Fi_cross 4 = .ok (.iload_n 2, 1) := by decide +kernel
theorem d_Fi_cross_5 : decode c0_Fi_cross 5 = .ok (.iaload, 1) := by decide +kernel
theorem d_Fi_cross_6 : decode c0_Fi_cross 6 = .ok (.aload_n 0, 1) := by decide +kernel
theorem d_Fi_cross_7 : decode c0_Fi_cross 7 = .ok (.getfield 9, 3) := by decide +kernel
theorem d_Fi_cross_10 : decode c0_Fi_cross 10 = .ok (.iload_n 1, 1) := by decide +kernel
theorem d_Fi_cross_11 : decode c0_Fi_cross 11 = .ok (.iaload, 1) := by decide +kernel
theorem d_Fi_cross_12 : decode c0_Fi_cross 12 = .ok (.isub, 1) := by decide +kernel
theorem d_Fi_cross_13 : decode c0_Fi_cross 13 = .ok (.i2l, 1) := by decide +kernel
theorem d_Fi_cross_14 : decode c0_Fi_cross 14 = .ok (.aload_n 0, 1) := by decide +kernel
theorem d_Fi_cross_15 : decode c0_Fi_cross 15 = .ok (.getfield 15, 3) := by decide +kernel
theorem d_Fi_cross_18 : decode c0_Fi_cross 18 = .ok (.iload 4, 2) := by decide +kernel
theorem d_Fi_cross_20 : decode c0_Fi_cross 20 = .ok (.iaload, 1) := by decide +kernel
theorem d_Fi_cross_21 : decode c0_Fi_cross 21 = .ok (.aload_n 0, 1) := by decide +kernel
theorem d_Fi_cross_22 : decode c0_Fi_cross 22 = .ok (.getfield 15, 3) := by decide +kernel
theorem d_Fi_cross_25 : decode c0_Fi_cross 25 = .ok (.iload_n 3, 1) := by decide +kernel
theorem d_Fi_cross_26 : decode c0_Fi_cross 26 = .ok (.iaload, 1) := by decide +kernel
theorem d_Fi_cross_27 : decode c0_Fi_cross 27 = .ok (.isub, 1) := by decide +kernel
theorem d_Fi_cross_28 : decode c0_Fi_cross 28 = .ok (.i2l, 1) := by decide +kernel
theorem d_Fi_cross_29 : decode c0_Fi_cross 29 = .ok (.lmul, 1) := by decide +kernel
theorem d_Fi_cross_30 : decode c0_Fi_cross 30 = .ok (.aload_n 0, 1) := by decide +kernel
theorem d_Fi_cross_31 : decode c0_Fi_cross 31 = .ok (.getfield 15, 3) := by decide +kernel
theorem d_Fi_cross_34 : decode c0_Fi_cross 34 = .ok (.iload_n 2, 1) := by decide +kernel
theorem d_Fi_cross_35 : decode c0_Fi_cross 35 = .ok (.iaload, 1) := by decide +kernel
theorem d_Fi_cross_36 : decode c0_Fi_cross 36 = .ok (.aload_n 0, 1) := by decide +kernel
theorem d_Fi_cross_37 : decode c0_Fi_cross 37 = .ok (.getfield 15, 3) := by decide +kernel
theorem d_Fi_cross_40 : decode c0_Fi_cross 40 = .ok (.iload_n 1, 1) := by decide +kernel
theorem d_Fi_cross_41 : decode c0_Fi_cross 41 = .ok (.iaload, 1) := by decide +kernel
theorem d_Fi_cross_42 : decode c0_Fi_cross 42 = .ok (.isub, 1) := by decide +kernel
theorem d_Fi_cross_43 : decode c0_Fi_cross 43 = .ok (.i2l, 1) := by decide +kernel
theorem d_Fi_cross_44 : decode c0_Fi_cross 44 = .ok (.aload_n 0, 1) := by decide +kernel
theorem d_Fi_cross_45 : decode c0_Fi_cross 45 = .ok (.getfield 9, 3) := by decide +kernel
theorem d_Fi_cross_48 : decode c0_Fi_cross 48 = .ok (.iload 4, 2) := by decide +kernel
theorem d_Fi_cross_50 : decode c0_Fi_cross 50 = .ok (.iaload, 1) := by decide +kernel
theorem d_Fi_cross_51 : decode c0_Fi_cross 51 = .ok (.aload_n 0, 1) := by decide +kernel
theorem d_Fi_cross_52 : decode c0_Fi_cross 52 = .ok (.getfield 9, 3) := by decide +kernel
theorem d_Fi_cross_55 : decode c0_Fi_cross 55 = .ok (.iload_n 3, 1) := by decide +kernel
theorem d_Fi_cross_56 : decode c0_Fi_cross 56 = .ok (.iaload, 1) := by decide +kernel
theorem d_Fi_cross_57 : decode c0_Fi_cross 57 = .ok (.isub, 1) := by decide +kernel
theorem d_Fi_cross_58 : decode c0_Fi_cross 58 = .ok (.i2l, 1) := by decide +kernel
theorem d_Fi_cross_59 : decode c0_Fi_cross 59 = .ok (.lmul, 1) := by decide +kernel
theorem d_Fi_cross_60 : decode c0_Fi_cross 60 = .ok (.lsub, 1) := by decide +kernel
theorem d_Fi_cross_61 : decode c0_Fi_cross 61 = .ok (.ldc2_w 88, 3) := by decide +kernel
theorem d_Fi_cross_64 : decode c0_Fi_cross 64 = .ok (.lrem, 1) := by decide +kernel
theorem d_Fi_cross_65 : decode c0_Fi_cross 65 = .ok (.lreturn, 1) := by decide +kernel
def f_Fi_cross (K : Nat → ClassId) (N : Nat) (o : Nat) (a1 : Int32) (a2 : Int32) (a3 : Int32) (a4 : Int32) (h0 : fh_H) : Option (Int64 × fh_H) :=
  (fg_a h0 (some o) 4 0).bind fun x1 => (fa_i (K 0) h0 x1 a2).bind fun x2 => (fg_a h0 (some o) 4 0).bind fun x3 => (fa_i (K 0) h0 x3 a1).bind fun x4 => (fg_a h0 (some o) 4 1).bind fun x5 => (fa_i (K 0) h0 x5 a4).bind fun x6 => (fg_a h0 (some o) 4 1).bind fun x7 => (fa_i (K 0) h0 x7 a3).bind fun x8 => (fg_a h0 (some o) 4 1).bind fun x9 => (fa_i (K 0) h0 x9 a2).bind fun x10 => (fg_a h0 (some o) 4 1).bind fun x11 => (fa_i (K 0) h0 x11 a1).bind fun x12 => (fg_a h0 (some o) 4 0).bind fun x13 => (fa_i (K 0) h0 x13 a4).bind fun x14 => (fg_a h0 (some o) 4 0).bind fun x15 => (fa_i (K 0) h0 x15 a3).bind fun x16 => (some ((((x2 - x4).toInt64) * ((x6 - x8).toInt64)) - (((x10 - x12).toInt64) * ((x14 - x16).toInt64)))).bind fun x17 => some (fr_l x17 1000003, h0)
set_option maxHeartbeats 4000000 in
set_option maxRecDepth 100000 in
theorem c_Fi_cross {l : Launch} {D : va_G} {K : Nat → ClassId} {t : Nat → Nat} {N : Nat} {o : Nat} {a1 : Int32} {a2 : Int32} {a3 : Int32} {a4 : Int32} {h0 : fh_H} {res : Int64 × fh_H} (hf : f_Fi_cross K N o a1 a2 a3 a4 h0 = some res) : fC l D K t y_Fi_cross c0_Fi_cross 5 (some .long) rm_Fi_cross [.ref o, .int a1, .int a2, .int a3, .int a4] h0 (some (.long res.1)) res.2 := by
  refine fh_body (by decide) (Nat.le_of_ble_eq_true rfl) ?_
  intro p e s m below meth c A ls S hr hk hnm hE hAe hI hl
  obtain ⟨hx, hb, hml, hown, hts⟩ := id S
  have hl : lv_has ls 5 [(0, va_rf (some o)), (1, .int a1), (2, .int a2), (3, .int a3), (4, .int a4)] := hl
  unfold f_Fi_cross at hf
  refine fh_aload_n S d_Fi_cross_0 rfl (lv_at hl 0 rfl) ?_
  obtain ⟨x1, e_x1, hf⟩ := fh_b hf
  refine fh_geta S hE.1 hI e_x1 (hc := rfl) (hin := in_4) (by decide) (hts _ k_15) d_Fi_cross_1 ?_
  refine lv_iload_n hx hb d_Fi_cross_4 rfl (lv_at hl 2 rfl) ?_
  obtain ⟨x2, e_x2, hf⟩ := fh_b hf
  refine fh_iald S hE.1 hI 0 rfl e_x2 d_Fi_cross_5 ?_
  refine fh_aload_n S d_Fi_cross_6 rfl (lv_at hl 0 rfl) ?_
  obtain ⟨x3, e_x3, hf⟩ := fh_b hf
  refine fh_geta S hE.1 hI e_x3 (hc := rfl) (hin := in_4) (by decide) (hts _ k_15) d_Fi_cross_7 ?_
  refine lv_iload_n hx hb d_Fi_cross_10 rfl (lv_at hl 1 rfl) ?_
  obtain ⟨x4, e_x4, hf⟩ := fh_b hf
  refine fh_iald S hE.1 hI 0 rfl e_x4 d_Fi_cross_11 ?_
  refine lv_isub hx hb d_Fi_cross_12 ?_
  refine lv_i2l hx hb d_Fi_cross_13 rfl ?_
  refine fh_aload_n S d_Fi_cross_14 rfl (lv_at hl 0 rfl) ?_
  obtain ⟨x5, e_x5, hf⟩ := fh_b hf
  refine fh_geta S hE.1 hI e_x5 (hc := rfl) (hin := in_4) (by decide) (hts _ k_16) d_Fi_cross_15 ?_
  refine lv_iload hx hb d_Fi_cross_18 (lv_at hl 4 rfl) ?_
  obtain ⟨x6, e_x6, hf⟩ := fh_b hf
  refine fh_iald S hE.1 hI 0 rfl e_x6 d_Fi_cross_20 ?_
  refine fh_aload_n S d_Fi_cross_21 rfl (lv_at hl 0 rfl) ?_
  obtain ⟨x7, e_x7, hf⟩ := fh_b hf
  refine fh_geta S hE.1 hI e_x7 (hc := rfl) (hin := in_4) (by decide) (hts _ k_16) d_Fi_cross_22 ?_
  refine lv_iload_n hx hb d_Fi_cross_25 rfl (lv_at hl 3 rfl) ?_
  obtain ⟨x8, e_x8, hf⟩ := fh_b hf
  refine fh_iald S hE.1 hI 0 rfl e_x8 d_Fi_cross_26 ?_
  refine lv_isub hx hb d_Fi_cross_27 ?_
  refine lv_i2l hx hb d_Fi_cross_28 rfl ?_
  refine lv_lmul hx hb d_Fi_cross_29 ?_
  refine fh_aload_n S d_Fi_cross_30 rfl (lv_at hl 0 rfl) ?_
  obtain ⟨x9, e_x9, hf⟩ := fh_b hf
  refine fh_geta S hE.1 hI e_x9 (hc := rfl) (hin := in_4) (by decide) (hts _ k_16) d_Fi_cross_31 ?_
  refine lv_iload_n hx hb d_Fi_cross_34 rfl (lv_at hl 2 rfl) ?_
  obtain ⟨x10, e_x10, hf⟩ := fh_b hf
  refine fh_iald S hE.1 hI 0 rfl e_x10 d_Fi_cross_35 ?_
  refine fh_aload_n S d_Fi_cross_36 rfl (lv_at hl 0 rfl) ?_
  obtain ⟨x11, e_x11, hf⟩ := fh_b hf
  refine fh_geta S hE.1 hI e_x11 (hc := rfl) (hin := in_4) (by decide) (hts _ k_16) d_Fi_cross_37 ?_
  refine lv_iload_n hx hb d_Fi_cross_40 rfl (lv_at hl 1 rfl) ?_
  obtain ⟨x12, e_x12, hf⟩ := fh_b hf
  refine fh_iald S hE.1 hI 0 rfl e_x12 d_Fi_cross_41 ?_
  refine lv_isub hx hb d_Fi_cross_42 ?_
  refine lv_i2l hx hb d_Fi_cross_43 rfl ?_
  refine fh_aload_n S d_Fi_cross_44 rfl (lv_at hl 0 rfl) ?_
  obtain ⟨x13, e_x13, hf⟩ := fh_b hf
  refine fh_geta S hE.1 hI e_x13 (hc := rfl) (hin := in_4) (by decide) (hts _ k_15) d_Fi_cross_45 ?_
  refine lv_iload hx hb d_Fi_cross_48 (lv_at hl 4 rfl) ?_
  obtain ⟨x14, e_x14, hf⟩ := fh_b hf
  refine fh_iald S hE.1 hI 0 rfl e_x14 d_Fi_cross_50 ?_
  refine fh_aload_n S d_Fi_cross_51 rfl (lv_at hl 0 rfl) ?_
  obtain ⟨x15, e_x15, hf⟩ := fh_b hf
  refine fh_geta S hE.1 hI e_x15 (hc := rfl) (hin := in_4) (by decide) (hts _ k_15) d_Fi_cross_52 ?_
  refine lv_iload_n hx hb d_Fi_cross_55 rfl (lv_at hl 3 rfl) ?_
  obtain ⟨x16, e_x16, hf⟩ := fh_b hf
  refine fh_iald S hE.1 hI 0 rfl e_x16 d_Fi_cross_56 ?_
  refine lv_isub hx hb d_Fi_cross_57 ?_
  refine lv_i2l hx hb d_Fi_cross_58 rfl ?_
  refine lv_lmul hx hb d_Fi_cross_59 ?_
  refine lv_lsub hx hb d_Fi_cross_60 ?_
  obtain ⟨x17, e_x17, hf⟩ := fh_b hf
  refine fh_topl e_x17 ?_
  refine lv_ldc2 hx hb hown (hts _ k_9) d_Fi_cross_61 ?_
  refine fh_lrem S d_Fi_cross_64 (by decide) ?_
  obtain rfl := Option.some.inj hf
  exact fh_lret S hr hk hAe hI d_Fi_cross_65
theorem d_Fi_findMeet_0 : decode c0_Fi_findMeet 0 = .ok (.aload_n 0, 1) := by decide +kernel
theorem d_Fi_findMeet_1 : decode c0_Fi_findMeet 1 = .ok (.iload_n 1, 1) := by decide +kernel
theorem d_Fi_findMeet_2 : decode c0_Fi_findMeet 2 = .ok (.iload_n 2, 1) := by decide +kernel
theorem d_Fi_findMeet_3 : decode c0_Fi_findMeet 3 = .ok (.iload_n 3, 1) := by decide +kernel
theorem d_Fi_findMeet_4 : decode c0_Fi_findMeet 4 = .ok (.iload 4, 2) := by decide +kernel
theorem d_Fi_findMeet_6 : decode c0_Fi_findMeet 6 = .ok (.invokevirtual 103, 3) := by decide +kernel
theorem d_Fi_findMeet_9 : decode c0_Fi_findMeet 9 = .ok (.lstore 5, 2) := by decide +kernel
theorem d_Fi_findMeet_11 : decode c0_Fi_findMeet 11 = .ok (.lload 5, 2) := by decide +kernel
theorem d_Fi_findMeet_13 : decode c0_Fi_findMeet 13 = .ok (.lconst 0, 1) := by decide +kernel
theorem d_Fi_findMeet_14 : decode c0_Fi_findMeet 14 = .ok (.lcmp, 1) := by decide +kernel
theorem d_Fi_findMeet_15 : decode c0_Fi_findMeet 15 = .ok (.ifCond .ne 5, 3) := by decide +kernel
theorem d_Fi_findMeet_18 : decode c0_Fi_findMeet 18 = .ok (.iconst 0, 1) := by decide +kernel
theorem d_Fi_findMeet_19 : decode c0_Fi_findMeet 19 = .ok (.ireturn, 1) := by decide +kernel
theorem d_Fi_findMeet_20 : decode c0_Fi_findMeet 20 = .ok (.aload_n 0, 1) := by decide +kernel
theorem d_Fi_findMeet_21 : decode c0_Fi_findMeet 21 = .ok (.iload_n 1, 1) := by decide +kernel
theorem d_Fi_findMeet_22 : decode c0_Fi_findMeet 22 = .ok (.iload_n 2, 1) := by decide +kernel
theorem d_Fi_findMeet_23 : decode c0_Fi_findMeet 23 = .ok (.aload_n 0, 1) := by decide +kernel
theorem d_Fi_findMeet_24 : decode c0_Fi_findMeet 24 = .ok (.iload_n 1, 1) := by decide +kernel
theorem d_Fi_findMeet_25 : decode c0_Fi_findMeet 25 = .ok (.iload_n 3, 1) := by decide +kernel
theorem d_Fi_findMeet_26 : decode c0_Fi_findMeet 26 = .ok (.iload_n 3, 1) := by decide +kernel
theorem d_Fi_findMeet_27 : decode c0_Fi_findMeet 27 = .ok (.iload 4, 2) := by decide +kernel
theorem d_Fi_findMeet_29 : decode c0_Fi_findMeet 29 = .ok (.invokevirtual 103, 3) := by decide +kernel
theorem d_Fi_findMeet_32 : decode c0_Fi_findMeet 32 = .ok (.lload 5, 2) := by decide +kernel
theorem d_Fi_findMeet_34 : decode c0_Fi_findMeet 34 = .ok (.invokestatic 99, 3) := by decide +kernel
theorem d_Fi_findMeet_37 : decode c0_Fi_findMeet 37 = .ok (.lmul, 1) := by decide +kernel
theorem d_Fi_findMeet_38 : decode c0_Fi_findMeet 38 = .ok (.ldc2_w 88, 3) := by decide +kernel
theorem d_Fi_findMeet_41 : decode c0_Fi_findMeet 41 = .ok (.lrem, 1) := by decide +kernel
theorem d_Fi_findMeet_42 : decode c0_Fi_findMeet 42 = .ok (.invokevirtual 76, 3) := by decide +kernel
theorem d_Fi_findMeet_45 : decode c0_Fi_findMeet 45 = .ok (.ireturn, 1) := by decide +kernel
def f_Fi_findMeet (K : Nat → ClassId) (N : Nat) (o : Nat) (a1 : Int32) (a2 : Int32) (a3 : Int32) (a4 : Int32) (h0 : fh_H) : Option (Int32 × fh_H) :=
  (fg_o h0 (some o) 4).bind fun o1 => (f_Fi_cross K N o1 a1 a2 a3 a4 h0).bind fun r2 => if (lg_cmp r2.1 0) = 0 then (some (0, r2.2)) else ((fg_o r2.2 (some o) 4).bind fun o3 => (f_Fi_cross K N o3 a1 a3 a3 a4 r2.2).bind fun r4 => (f_FF_invert K N r2.1 r4.2).bind fun r5 => (fg_o r5.2 (some o) 4).bind fun o6 => (f_Fi_findAlong K N o6 a1 a2 (fr_l (r4.1 * r5.1) 1000003) r5.2).bind fun r7 => fz r7.1 r7.2)
set_option maxHeartbeats 4000000 in
set_option maxRecDepth 100000 in
theorem c_Fi_findMeet {l : Launch} {D : va_G} {K : Nat → ClassId} {t : Nat → Nat} {N : Nat} {o : Nat} {a1 : Int32} {a2 : Int32} {a3 : Int32} {a4 : Int32} {h0 : fh_H} {res : Int32 × fh_H} (hf : f_Fi_findMeet K N o a1 a2 a3 a4 h0 = some res) : fC l D K t y_Fi_findMeet c0_Fi_findMeet 7 (some .boolean) rm_Fi_findMeet [.ref o, .int a1, .int a2, .int a3, .int a4] h0 (some (.int res.1)) res.2 := by
  refine fh_body (by decide) (Nat.le_of_ble_eq_true rfl) ?_
  intro p e s m below meth c A ls S hr hk hnm hE hAe hI hl
  obtain ⟨hx, hb, hml, hown, hts⟩ := id S
  have hl : lv_has ls 7 [(0, va_rf (some o)), (1, .int a1), (2, .int a2), (3, .int a3), (4, .int a4)] := hl
  unfold f_Fi_findMeet at hf
  refine fh_aload_n S d_Fi_findMeet_0 rfl (lv_at hl 0 rfl) ?_
  refine lv_iload_n hx hb d_Fi_findMeet_1 rfl (lv_at hl 1 rfl) ?_
  refine lv_iload_n hx hb d_Fi_findMeet_2 rfl (lv_at hl 2 rfl) ?_
  refine lv_iload_n hx hb d_Fi_findMeet_3 rfl (lv_at hl 3 rfl) ?_
  refine lv_iload hx hb d_Fi_findMeet_4 (lv_at hl 4 rfl) ?_
  obtain ⟨o1, e_o1, hf⟩ := fh_b hf
  obtain ⟨r2, e_r2, hf⟩ := fh_b hf
  refine fh_callV (As := [.int a1, .int a2, .int a3, .int a4]) (rest := []) S fT_good hE hI e_o1 rfl (c_Fi_cross e_r2) fy_Fi_cross fst_Fi_cross k_21 ⟨rfl, rfl⟩ ⟨Nat.le_of_ble_eq_true rfl, Nat.le_of_ble_eq_true rfl⟩ ⟨Nat.zero_le _, Nat.zero_le _⟩ rfl hl.1 rfl (Nat.le_of_ble_eq_true rfl) d_Fi_findMeet_6 (fun H locs hI => ?_)
  refine lv_lstore (lv' := [(5, .long r2.1), (0, va_rf (some o)), (1, .int a1), (2, .int a2), (3, .int a3), (4, .int a4)]) hx hb d_Fi_findMeet_9 hl (by decide) rfl (fun ls hl => ?_)
  refine lv_lload hx hb d_Fi_findMeet_11 (lv_at hl 0 rfl) ?_
  refine lv_lconst (v := 0) hx hb d_Fi_findMeet_13 (by decide) ?_
  refine W.lcmp hx hb d_Fi_findMeet_14 ?_
  refine lv_if_ne (tgt := 20) hx hb d_Fi_findMeet_15 (by decide) (fun c_15 => ?_) (fun c_15 => ?_)
  · replace hf := fh_f c_15 hf
    refine fh_aload_n S d_Fi_findMeet_20 rfl (lv_at hl 1 rfl) ?_
    refine lv_iload_n hx hb d_Fi_findMeet_21 rfl (lv_at hl 2 rfl) ?_
    refine lv_iload_n hx hb d_Fi_findMeet_22 rfl (lv_at hl 3 rfl) ?_
    refine fh_aload_n S d_Fi_findMeet_23 rfl (lv_at hl 1 rfl) ?_
    refine lv_iload_n hx hb d_Fi_findMeet_24 rfl (lv_at hl 2 rfl) ?_
    refine lv_iload_n hx hb d_Fi_findMeet_25 rfl (lv_at hl 4 rfl) ?_
    refine lv_iload_n hx hb d_Fi_findMeet_26 rfl (lv_at hl 4 rfl) ?_
    refine lv_iload hx hb d_Fi_findMeet_27 (lv_at hl 5 rfl) ?_
    obtain ⟨o3, e_o3, hf⟩ := fh_b hf
    obtain ⟨r4, e_r4, hf⟩ := fh_b hf
    refine fh_callV (As := [.int a1, .int a3, .int a3, .int a4]) (rest := [.int a2, .int a1, va_rf (some o)]) S fT_good hE hI e_o3 rfl (c_Fi_cross e_r4) fy_Fi_cross fst_Fi_cross k_21 ⟨rfl, rfl⟩ ⟨Nat.le_of_ble_eq_true rfl, Nat.le_of_ble_eq_true rfl⟩ ⟨Nat.zero_le _, Nat.zero_le _⟩ rfl hl.1 rfl (Nat.le_of_ble_eq_true rfl) d_Fi_findMeet_29 (fun H locs hI => ?_)
    refine lv_lload hx hb d_Fi_findMeet_32 (lv_at hl 0 rfl) ?_
    obtain ⟨r5, e_r5, hf⟩ := fh_b hf
    refine fh_callSN (As := [.long r2.1]) (rest := [.long r4.1, .int a2, .int a1, va_rf (some o)]) S fT_good hE hI (c_FF_invert e_r5) fy_FF_invert fst_FF_invert kn_0 ⟨rfl, rfl⟩ ⟨Nat.le_of_ble_eq_true rfl, Nat.le_of_ble_eq_true rfl⟩ ⟨Nat.zero_le _, Nat.zero_le _⟩ rfl hl.1 rfl (Nat.le_of_ble_eq_true rfl) d_Fi_findMeet_34 (fun H locs hI => ?_)
    refine lv_lmul hx hb d_Fi_findMeet_37 ?_
    refine lv_ldc2 hx hb hown (hts _ k_9) d_Fi_findMeet_38 ?_
    refine fh_lrem S d_Fi_findMeet_41 (by decide) ?_
    obtain ⟨o6, e_o6, hf⟩ := fh_b hf
    obtain ⟨r7, e_r7, hf⟩ := fh_b hf
    refine fh_callV (As := [.int a1, .int a2, .long (fr_l (r4.1 * r5.1) 1000003)]) (rest := []) S fT_good hE hI e_o6 rfl (c_Fi_findAlong e_r7) fy_Fi_findAlong fst_Fi_findAlong k_20 ⟨rfl, rfl⟩ ⟨Nat.le_of_ble_eq_true rfl, Nat.le_of_ble_eq_true rfl⟩ ⟨Nat.zero_le _, Nat.zero_le _⟩ rfl hl.1 rfl (Nat.le_of_ble_eq_true rfl) d_Fi_findMeet_42 (fun H locs hI => ?_)
    obtain ⟨hz, rfl⟩ := fz_s hf
    exact fh_iret S hr hk (fh_nb hz) hAe hI d_Fi_findMeet_45
  · replace hf := fh_t c_15 hf
    refine lv_iconst (v := 0) hx hb d_Fi_findMeet_18 (by decide) ?_
    obtain rfl := Option.some.inj hf
    exact fh_iret S hr hk (fh_nb (Or.inl rfl)) hAe hI d_Fi_findMeet_19
theorem d_Fi_findCentre_0 : decode c0_Fi_findCentre 0 = .ok (.aload_n 0, 1) := by decide +kernel
theorem d_Fi_findCentre_1 : decode c0_Fi_findCentre 1 = .ok (.iload_n 1, 1) := by decide +kernel
theorem d_Fi_findCentre_2 : decode c0_Fi_findCentre 2 = .ok (.iload_n 2, 1) := by decide +kernel
theorem d_Fi_findCentre_3 : decode c0_Fi_findCentre 3 = .ok (.iload_n 1, 1) := by decide +kernel
theorem d_Fi_findCentre_4 : decode c0_Fi_findCentre 4 = .ok (.iload_n 3, 1) := by decide +kernel
theorem d_Fi_findCentre_5 : decode c0_Fi_findCentre 5 = .ok (.invokevirtual 103, 3) := by decide +kernel
theorem d_Fi_findCentre_8 : decode c0_Fi_findCentre 8 = .ok (.lstore 4, 2) := by decide +kernel
theorem d_Fi_findCentre_10 : decode c0_Fi_findCentre 10 = .ok (.lload 4, 2) := by decide +kernel
theorem d_Fi_findCentre_12 : decode c0_Fi_findCentre 12 = .ok (.lconst 0, 1) := by decide +kernel
theorem d_Fi_findCentre_13 : decode c0_Fi_findCentre 13 = .ok (.lcmp, 1) := by decide +kernel
theorem d_Fi_findCentre_14 : decode c0_Fi_findCentre 14 = .ok (.ifCond .ne 5, 3) := by decide +kernel
theorem d_Fi_findCentre_17 : decode c0_Fi_findCentre 17 = .ok (.iconst 0, 1) := by decide +kernel
theorem d_Fi_findCentre_18 : decode c0_Fi_findCentre 18 = .ok (.ireturn, 1) := by decide +kernel
theorem d_Fi_findCentre_19 : decode c0_Fi_findCentre 19 = .ok (.ldc2_w 107, 3) := by decide +kernel
theorem d_Fi_findCentre_22 : decode c0_Fi_findCentre 22 = .ok (.lload 4, 2) := by decide +kernel
theorem d_Fi_findCentre_24 : decode c0_Fi_findCentre 24 = .ok (.lmul, 1) := by decide +kernel
theorem d_Fi_findCentre_25 : decode c0_Fi_findCentre 25 = .ok (.invokestatic 99, 3) := by decide +kernel
theorem d_Fi_findCentre_28 : decode c0_Fi_findCentre 28 = .ok (.lstore 6, 2) := by decide +kernel
theorem d_Fi_findCentre_30 : decode c0_Fi_findCentre 30 = .ok (.aload_n 0, 1) := by decide +kernel
theorem d_Fi_findCentre_31 : decode c0_Fi_findCentre 31 = .ok (.iload_n 1, 1) := by decide +kernel
theorem d_Fi_findCentre_32 : decode c0_Fi_findCentre 32 = .ok (.iload_n 2, 1) := by decide +kernel
theorem d_Fi_findCentre_33 : decode c0_Fi_findCentre 33 = .ok (.invokevirtual 95, 3) := by decide +kernel
theorem d_Fi_findCentre_36 : decode c0_Fi_findCentre 36 = .ok (.lstore 8, 2) := by decide +kernel
theorem d_Fi_findCentre_38 : decode c0_Fi_findCentre 38 = .ok (.aload_n 0, 1) := by decide +kernel
theorem d_Fi_findCentre_39 : decode c0_Fi_findCentre 39 = .ok (.iload_n 1, 1) := by decide +kernel
theorem d_Fi_findCentre_40 : decode c0_Fi_findCentre 40 = .ok (.iload_n 3, 1) := by decide +kernel
theorem d_Fi_findCentre_41 : decode c0_Fi_findCentre 41 = .ok (.invokevirtual 95, 3) := by decide +kernel
theorem d_Fi_findCentre_44 : decode c0_Fi_findCentre 44 = .ok (.lstore 10, 2) := by decide +kernel
theorem d_Fi_findCentre_46 : decode c0_Fi_findCentre 46 = .ok (.lload 8, 2) := by decide +kernel
theorem d_Fi_findCentre_48 : decode c0_Fi_findCentre 48 = .ok (.aload_n 0, 1) := by decide +kernel
theorem d_Fi_findCentre_49 : decode c0_Fi_findCentre 49 = .ok (.getfield 15, 3) := by decide +kernel
theorem d_Fi_findCentre_52 : decode c0_Fi_findCentre 52 = .ok (.iload_n 3, 1) := by decide +kernel
theorem d_Fi_findCentre_53 : decode c0_Fi_findCentre 53 = .ok (.iaload, 1) := by decide +kernel
theorem d_Fi_findCentre_54 : decode c0_Fi_findCentre 54 = .ok (.aload_n 0, 1) := by decide +kernel
theorem d_Fi_findCentre_55 : decode c0_Fi_findCentre 55 = .ok (.getfield 15, 3) := by decide +kernel
theorem d_Fi_findCentre_58 : decode c0_Fi_findCentre 58 = .ok (.iload_n 1, 1) := by decide +kernel
theorem d_Fi_findCentre_59 : decode c0_Fi_findCentre 59 = .ok (.iaload, 1) := by decide +kernel
theorem d_Fi_findCentre_60 : decode c0_Fi_findCentre 60 = .ok (.isub, 1) := by decide +kernel
theorem d_Fi_findCentre_61 : decode c0_Fi_findCentre 61 = .ok (.i2l, 1) := by decide +kernel
theorem d_Fi_findCentre_62 : decode c0_Fi_findCentre 62 = .ok (.lmul, 1) := by decide +kernel
theorem d_Fi_findCentre_63 : decode c0_Fi_findCentre 63 = .ok (.lload 10, 2) := by decide +kernel
theorem d_Fi_findCentre_65 : decode c0_Fi_findCentre 65 = .ok (.aload_n 0, 1) := by decide +kernel
theorem d_Fi_findCentre_66 : decode c0_Fi_findCentre 66 = .ok (.getfield 15, 3) := by decide +kernel
theorem d_Fi_findCentre_69 : decode c0_Fi_findCentre 69 = .ok (.iload_n 2, 1) := by decide +kernel
theorem d_Fi_findCentre_70 : decode c0_Fi_findCentre 70 = .ok (.iaload, 1) := by decide +kernel
theorem d_Fi_findCentre_71 : decode c0_Fi_findCentre 71 = .ok (.aload_n 0, 1) := by decide +kernel
theorem d_Fi_findCentre_72 : decode c0_Fi_findCentre 72 = .ok (.getfield 15, 3) := by decide +kernel
theorem d_Fi_findCentre_75 : decode c0_Fi_findCentre 75 = .ok (.iload_n 1, 1) := by decide +kernel
theorem d_Fi_findCentre_76 : decode c0_Fi_findCentre 76 = .ok (.iaload, 1) := by decide +kernel
theorem d_Fi_findCentre_77 : decode c0_Fi_findCentre 77 = .ok (.isub, 1) := by decide +kernel
theorem d_Fi_findCentre_78 : decode c0_Fi_findCentre 78 = .ok (.i2l, 1) := by decide +kernel
theorem d_Fi_findCentre_79 : decode c0_Fi_findCentre 79 = .ok (.lmul, 1) := by decide +kernel
theorem d_Fi_findCentre_80 : decode c0_Fi_findCentre 80 = .ok (.lsub, 1) := by decide +kernel
theorem d_Fi_findCentre_81 : decode c0_Fi_findCentre 81 = .ok (.ldc2_w 88, 3) := by decide +kernel
theorem d_Fi_findCentre_84 : decode c0_Fi_findCentre 84 = .ok (.lrem, 1) := by decide +kernel
theorem d_Fi_findCentre_85 : decode c0_Fi_findCentre 85 = .ok (.lstore 12, 2) := by decide +kernel
theorem d_Fi_findCentre_87 : decode c0_Fi_findCentre 87 = .ok (.lload 10, 2) := by decide +kernel
theorem d_Fi_findCentre_89 : decode c0_Fi_findCentre 89 = .ok (.aload_n 0, 1) := by decide +kernel
theorem d_Fi_findCentre_90 : decode c0_Fi_findCentre 90 = .ok (.getfield 9, 3) := by decide +kernel
theorem d_Fi_findCentre_93 : decode c0_Fi_findCentre 93 = .ok (.iload_n 2, 1) := by decide +kernel
theorem d_Fi_findCentre_94 : decode c0_Fi_findCentre 94 = .ok (.iaload, 1) := by decide +kernel
theorem d_Fi_findCentre_95 : decode c0_Fi_findCentre 95 = .ok (.aload_n 0, 1) := by decide +kernel
theorem d_Fi_findCentre_96 : decode c0_Fi_findCentre 96 = .ok (.getfield 9, 3) := by decide +kernel
theorem d_Fi_findCentre_99 : decode c0_Fi_findCentre 99 = .ok (.iload_n 1, 1) := by decide +kernel
theorem d_Fi_findCentre_100 : decode c0_Fi_findCentre 100 = .ok (.iaload, 1) := by decide +kernel
theorem d_Fi_findCentre_101 : decode c0_Fi_findCentre 101 = .ok (.isub, 1) := by decide +kernel
theorem d_Fi_findCentre_102 : decode c0_Fi_findCentre 102 = .ok (.i2l, 1) := by decide +kernel
theorem d_Fi_findCentre_103 : decode c0_Fi_findCentre 103 = .ok (.lmul, 1) := by decide +kernel
theorem d_Fi_findCentre_104 : decode c0_Fi_findCentre 104 = .ok (.lload 8, 2) := by decide +kernel
theorem d_Fi_findCentre_106 : decode c0_Fi_findCentre 106 = .ok (.aload_n 0, 1) := by decide +kernel
theorem d_Fi_findCentre_107 : decode c0_Fi_findCentre 107 = .ok (.getfield 9, 3) := by decide +kernel
theorem d_Fi_findCentre_110 : decode c0_Fi_findCentre 110 = .ok (.iload_n 3, 1) := by decide +kernel
theorem d_Fi_findCentre_111 : decode c0_Fi_findCentre 111 = .ok (.iaload, 1) := by decide +kernel
theorem d_Fi_findCentre_112 : decode c0_Fi_findCentre 112 = .ok (.aload_n 0, 1) := by decide +kernel
theorem d_Fi_findCentre_113 : decode c0_Fi_findCentre 113 = .ok (.getfield 9, 3) := by decide +kernel
theorem d_Fi_findCentre_116 : decode c0_Fi_findCentre 116 = .ok (.iload_n 1, 1) := by decide +kernel
theorem d_Fi_findCentre_117 : decode c0_Fi_findCentre 117 = .ok (.iaload, 1) := by decide +kernel
theorem d_Fi_findCentre_118 : decode c0_Fi_findCentre 118 = .ok (.isub, 1) := by decide +kernel
theorem d_Fi_findCentre_119 : decode c0_Fi_findCentre 119 = .ok (.i2l, 1) := by decide +kernel
theorem d_Fi_findCentre_120 : decode c0_Fi_findCentre 120 = .ok (.lmul, 1) := by decide +kernel
theorem d_Fi_findCentre_121 : decode c0_Fi_findCentre 121 = .ok (.lsub, 1) := by decide +kernel
theorem d_Fi_findCentre_122 : decode c0_Fi_findCentre 122 = .ok (.ldc2_w 88, 3) := by decide +kernel
theorem d_Fi_findCentre_125 : decode c0_Fi_findCentre 125 = .ok (.lrem, 1) := by decide +kernel
theorem d_Fi_findCentre_126 : decode c0_Fi_findCentre 126 = .ok (.lstore 14, 2) := by decide +kernel
theorem d_Fi_findCentre_128 : decode c0_Fi_findCentre 128 = .ok (.aload_n 0, 1) := by decide +kernel
theorem d_Fi_findCentre_129 : decode c0_Fi_findCentre 129 = .ok (.aload_n 0, 1) := by decide +kernel
theorem d_Fi_findCentre_130 : decode c0_Fi_findCentre 130 = .ok (.getfield 9, 3) := by decide +kernel
theorem d_Fi_findCentre_133 : decode c0_Fi_findCentre 133 = .ok (.iload_n 1, 1) := by decide +kernel
theorem d_Fi_findCentre_134 : decode c0_Fi_findCentre 134 = .ok (.iaload, 1) := by decide +kernel
theorem d_Fi_findCentre_135 : decode c0_Fi_findCentre 135 = .ok (.i2l, 1) := by decide +kernel
theorem d_Fi_findCentre_136 : decode c0_Fi_findCentre 136 = .ok (.lload 12, 2) := by decide +kernel
theorem d_Fi_findCentre_138 : decode c0_Fi_findCentre 138 = .ok (.lload 6, 2) := by decide +kernel
theorem d_Fi_findCentre_140 : decode c0_Fi_findCentre 140 = .ok (.lmul, 1) := by decide +kernel
theorem d_Fi_findCentre_141 : decode c0_Fi_findCentre 141 = .ok (.ladd, 1) := by decide +kernel
theorem d_Fi_findCentre_142 : decode c0_Fi_findCentre 142 = .ok (.aload_n 0, 1) := by decide +kernel
theorem d_Fi_findCentre_143 : decode c0_Fi_findCentre 143 = .ok (.getfield 15, 3) := by decide +kernel
theorem d_Fi_findCentre_146 : decode c0_Fi_findCentre 146 = .ok (.iload_n 1, 1) := by decide +kernel
theorem d_Fi_findCentre_147 : decode c0_Fi_findCentre 147 = .ok (.iaload, 1) := by decide +kernel
theorem d_Fi_findCentre_148 : decode c0_Fi_findCentre 148 = .ok (.i2l, 1) := by decide +kernel
theorem d_Fi_findCentre_149 : decode c0_Fi_findCentre 149 = .ok (.lload 14, 2) := by decide +kernel
theorem d_Fi_findCentre_151 : decode c0_Fi_findCentre 151 = .ok (.lload 6, 2) := by decide +kernel
theorem d_Fi_findCentre_153 : decode c0_Fi_findCentre 153 = .ok (.lmul, 1) := by decide +kernel
theorem d_Fi_findCentre_154 : decode c0_Fi_findCentre 154 = .ok (.ladd, 1) := by decide +kernel
theorem d_Fi_findCentre_155 : decode c0_Fi_findCentre 155 = .ok (.invokevirtual 57, 3) := by decide +kernel
theorem d_Fi_findCentre_158 : decode c0_Fi_findCentre 158 = .ok (.ireturn, 1) := by decide +kernel
def f_Fi_findCentre (K : Nat → ClassId) (N : Nat) (o : Nat) (a1 : Int32) (a2 : Int32) (a3 : Int32) (h0 : fh_H) : Option (Int32 × fh_H) :=
  (fg_o h0 (some o) 4).bind fun o1 => (f_Fi_cross K N o1 a1 a2 a1 a3 h0).bind fun r2 => if (lg_cmp r2.1 0) = 0 then (some (0, r2.2)) else ((f_FF_invert K N (2 * r2.1) r2.2).bind fun r3 => (fg_o r3.2 (some o) 4).bind fun o4 => (f_Fi_length K N o4 a1 a2 r3.2).bind fun r5 => (fg_o r5.2 (some o) 4).bind fun o6 => (f_Fi_length K N o6 a1 a3 r5.2).bind fun r7 => (fg_a r7.2 (some o) 4 1).bind fun x8 => (fa_i (K 0) r7.2 x8 a3).bind fun x9 => (fg_a r7.2 (some o) 4 1).bind fun x10 => (fa_i (K 0) r7.2 x10 a1).bind fun x11 => (fg_a r7.2 (some o) 4 1).bind fun x12 => (fa_i (K 0) r7.2 x12 a2).bind fun x13 => (fg_a r7.2 (some o) 4 1).bind fun x14 => (fa_i (K 0) r7.2 x14 a1).bind fun x15 => (some ((r5.1 * ((x9 - x11).toInt64)) - (r7.1 * ((x13 - x15).toInt64)))).bind fun x16 => (some (fr_l x16 1000003)).bind fun x17 => (fg_a r7.2 (some o) 4 0).bind fun x18 => (fa_i (K 0) r7.2 x18 a2).bind fun x19 => (fg_a r7.2 (some o) 4 0).bind fun x20 => (fa_i (K 0) r7.2 x20 a1).bind fun x21 => (fg_a r7.2 (some o) 4 0).bind fun x22 => (fa_i (K 0) r7.2 x22 a3).bind fun x23 => (fg_a r7.2 (some o) 4 0).bind fun x24 => (fa_i (K 0) r7.2 x24 a1).bind fun x25 => (some ((r7.1 * ((x19 - x21).toInt64)) - (r5.1 * ((x23 - x25).toInt64)))).bind fun x26 => (some (fr_l x26 1000003)).bind fun x27 => (fg_a r7.2 (some o) 4 0).bind fun x28 => (fa_i (K 0) r7.2 x28 a1).bind fun x29 => (fg_a r7.2 (some o) 4 1).bind fun x30 => (fa_i (K 0) r7.2 x30 a1).bind fun x31 => (fg_o r7.2 (some o) 4).bind fun o32 => (f_Fi_found K N o32 (x29.toInt64 + (x17 * r3.1)) (x31.toInt64 + (x27 * r3.1)) r7.2).bind fun r33 => fz r33.1 r33.2)
set_option maxHeartbeats 4000000 in
set_option maxRecDepth 100000 in
theorem c_Fi_findCentre {l : Launch} {D : va_G} {K : Nat → ClassId} {t : Nat → Nat} {N : Nat} {o : Nat} {a1 : Int32} {a2 : Int32} {a3 : Int32} {h0 : fh_H} {res : Int32 × fh_H} (hf : f_Fi_findCentre K N o a1 a2 a3 h0 = some res) : fC l D K t y_Fi_findCentre c0_Fi_findCentre 16 (some .boolean) rm_Fi_findCentre [.ref o, .int a1, .int a2, .int a3] h0 (some (.int res.1)) res.2 := by
  refine fh_body (by decide) (Nat.le_of_ble_eq_true rfl) ?_
  intro p e s m below meth c A ls S hr hk hnm hE hAe hI hl
  obtain ⟨hx, hb, hml, hown, hts⟩ := id S
  have hl : lv_has ls 16 [(0, va_rf (some o)), (1, .int a1), (2, .int a2), (3, .int a3)] := hl
  unfold f_Fi_findCentre at hf
  refine fh_aload_n S d_Fi_findCentre_0 rfl (lv_at hl 0 rfl) ?_
  refine lv_iload_n hx hb d_Fi_findCentre_1 rfl (lv_at hl 1 rfl) ?_
  refine lv_iload_n hx hb d_Fi_findCentre_2 rfl (lv_at hl 2 rfl) ?_
  refine lv_iload_n hx hb d_Fi_findCentre_3 rfl (lv_at hl 1 rfl) ?_
  refine lv_iload_n hx hb d_Fi_findCentre_4 rfl (lv_at hl 3 rfl) ?_
  obtain ⟨o1, e_o1, hf⟩ := fh_b hf
  obtain ⟨r2, e_r2, hf⟩ := fh_b hf
  refine fh_callV (As := [.int a1, .int a2, .int a1, .int a3]) (rest := []) S fT_good hE hI e_o1 rfl (c_Fi_cross e_r2) fy_Fi_cross fst_Fi_cross k_21 ⟨rfl, rfl⟩ ⟨Nat.le_of_ble_eq_true rfl, Nat.le_of_ble_eq_true rfl⟩ ⟨Nat.zero_le _, Nat.zero_le _⟩ rfl hl.1 rfl (Nat.le_of_ble_eq_true rfl) d_Fi_findCentre_5 (fun H locs hI => ?_)
  refine lv_lstore (lv' := [(4, .long r2.1), (0, va_rf (some o)), (1, .int a1), (2, .int a2), (3, .int a3)]) hx hb d_Fi_findCentre_8 hl (by decide) rfl (fun ls hl => ?_)
  refine lv_lload hx hb d_Fi_findCentre_10 (lv_at hl 0 rfl) ?_
  refine lv_lconst (v := 0) hx hb d_Fi_findCentre_12 (by decide) ?_
  refine W.lcmp hx hb d_Fi_findCentre_13 ?_
  refine lv_if_ne (tgt := 19) hx hb d_Fi_findCentre_14 (by decide) (fun c_14 => ?_) (fun c_14 => ?_)
  · replace hf := fh_f c_14 hf
    refine lv_ldc2 hx hb hown (hts _ k_22) d_Fi_findCentre_19 ?_
    refine lv_lload hx hb d_Fi_findCentre_22 (lv_at hl 0 rfl) ?_
    refine lv_lmul hx hb d_Fi_findCentre_24 ?_
    obtain ⟨r3, e_r3, hf⟩ := fh_b hf
    refine fh_callSN (As := [.long (2 * r2.1)]) (rest := []) S fT_good hE hI (c_FF_invert e_r3) fy_FF_invert fst_FF_invert kn_0 ⟨rfl, rfl⟩ ⟨Nat.le_of_ble_eq_true rfl, Nat.le_of_ble_eq_true rfl⟩ ⟨Nat.zero_le _, Nat.zero_le _⟩ rfl hl.1 rfl (Nat.le_of_ble_eq_true rfl) d_Fi_findCentre_25 (fun H locs hI => ?_)
    refine lv_lstore (lv' := [(6, .long r3.1), (4, .long r2.1), (0, va_rf (some o)), (1, .int a1), (2, .int a2), (3, .int a3)]) hx hb d_Fi_findCentre_28 hl (by decide) rfl (fun ls hl => ?_)
    refine fh_aload_n S d_Fi_findCentre_30 rfl (lv_at hl 2 rfl) ?_
    refine lv_iload_n hx hb d_Fi_findCentre_31 rfl (lv_at hl 3 rfl) ?_
    refine lv_iload_n hx hb d_Fi_findCentre_32 rfl (lv_at hl 4 rfl) ?_
    obtain ⟨o4, e_o4, hf⟩ := fh_b hf
    obtain ⟨r5, e_r5, hf⟩ := fh_b hf
    refine fh_callV (As := [.int a1, .int a2]) (rest := []) S fT_good hE hI e_o4 rfl (c_Fi_length e_r5) fy_Fi_length fst_Fi_length k_19 ⟨rfl, rfl⟩ ⟨Nat.le_of_ble_eq_true rfl, Nat.le_of_ble_eq_true rfl⟩ ⟨Nat.zero_le _, Nat.zero_le _⟩ rfl hl.1 rfl (Nat.le_of_ble_eq_true rfl) d_Fi_findCentre_33 (fun H locs hI => ?_)
    refine lv_lstore (lv' := [(8, .long r5.1), (6, .long r3.1), (4, .long r2.1), (0, va_rf (some o)), (1, .int a1), (2, .int a2), (3, .int a3)]) hx hb d_Fi_findCentre_36 hl (by decide) rfl (fun ls hl => ?_)
    refine fh_aload_n S d_Fi_findCentre_38 rfl (lv_at hl 3 rfl) ?_
    refine lv_iload_n hx hb d_Fi_findCentre_39 rfl (lv_at hl 4 rfl) ?_
    refine lv_iload_n hx hb d_Fi_findCentre_40 rfl (lv_at hl 6 rfl) ?_
    obtain ⟨o6, e_o6, hf⟩ := fh_b hf
    obtain ⟨r7, e_r7, hf⟩ := fh_b hf
    refine fh_callV (As := [.int a1, .int a3]) (rest := []) S fT_good hE hI e_o6 rfl (c_Fi_length e_r7) fy_Fi_length fst_Fi_length k_19 ⟨rfl, rfl⟩ ⟨Nat.le_of_ble_eq_true rfl, Nat.le_of_ble_eq_true rfl⟩ ⟨Nat.zero_le _, Nat.zero_le _⟩ rfl hl.1 rfl (Nat.le_of_ble_eq_true rfl) d_Fi_findCentre_41 (fun H locs hI => ?_)
    refine lv_lstore (lv' := [(10, .long r7.1), (8, .long r5.1), (6, .long r3.1), (4, .long r2.1), (0, va_rf (some o)), (1, .int a1), (2, .int a2), (3, .int a3)]) hx hb d_Fi_findCentre_44 hl (by decide) rfl (fun ls hl => ?_)
    refine lv_lload hx hb d_Fi_findCentre_46 (lv_at hl 1 rfl) ?_
    refine fh_aload_n S d_Fi_findCentre_48 rfl (lv_at hl 4 rfl) ?_
    obtain ⟨x8, e_x8, hf⟩ := fh_b hf
    refine fh_geta S hE.1 hI e_x8 (hc := rfl) (hin := in_4) (by decide) (hts _ k_16) d_Fi_findCentre_49 ?_
    refine lv_iload_n hx hb d_Fi_findCentre_52 rfl (lv_at hl 7 rfl) ?_
    obtain ⟨x9, e_x9, hf⟩ := fh_b hf
    refine fh_iald S hE.1 hI 0 rfl e_x9 d_Fi_findCentre_53 ?_
    refine fh_aload_n S d_Fi_findCentre_54 rfl (lv_at hl 4 rfl) ?_
    obtain ⟨x10, e_x10, hf⟩ := fh_b hf
    refine fh_geta S hE.1 hI e_x10 (hc := rfl) (hin := in_4) (by decide) (hts _ k_16) d_Fi_findCentre_55 ?_
    refine lv_iload_n hx hb d_Fi_findCentre_58 rfl (lv_at hl 5 rfl) ?_
    obtain ⟨x11, e_x11, hf⟩ := fh_b hf
    refine fh_iald S hE.1 hI 0 rfl e_x11 d_Fi_findCentre_59 ?_
    refine lv_isub hx hb d_Fi_findCentre_60 ?_
    refine lv_i2l hx hb d_Fi_findCentre_61 rfl ?_
    refine lv_lmul hx hb d_Fi_findCentre_62 ?_
    refine lv_lload hx hb d_Fi_findCentre_63 (lv_at hl 0 rfl) ?_
    refine fh_aload_n S d_Fi_findCentre_65 rfl (lv_at hl 4 rfl) ?_
    obtain ⟨x12, e_x12, hf⟩ := fh_b hf
    refine fh_geta S hE.1 hI e_x12 (hc := rfl) (hin := in_4) (by decide) (hts _ k_16) d_Fi_findCentre_66 ?_
    refine lv_iload_n hx hb d_Fi_findCentre_69 rfl (lv_at hl 6 rfl) ?_
    obtain ⟨x13, e_x13, hf⟩ := fh_b hf
    refine fh_iald S hE.1 hI 0 rfl e_x13 d_Fi_findCentre_70 ?_
    refine fh_aload_n S d_Fi_findCentre_71 rfl (lv_at hl 4 rfl) ?_
    obtain ⟨x14, e_x14, hf⟩ := fh_b hf
    refine fh_geta S hE.1 hI e_x14 (hc := rfl) (hin := in_4) (by decide) (hts _ k_16) d_Fi_findCentre_72 ?_
    refine lv_iload_n hx hb d_Fi_findCentre_75 rfl (lv_at hl 5 rfl) ?_
    obtain ⟨x15, e_x15, hf⟩ := fh_b hf
    refine fh_iald S hE.1 hI 0 rfl e_x15 d_Fi_findCentre_76 ?_
    refine lv_isub hx hb d_Fi_findCentre_77 ?_
    refine lv_i2l hx hb d_Fi_findCentre_78 rfl ?_
    refine lv_lmul hx hb d_Fi_findCentre_79 ?_
    refine lv_lsub hx hb d_Fi_findCentre_80 ?_
    obtain ⟨x16, e_x16, hf⟩ := fh_b hf
    refine fh_topl e_x16 ?_
    refine lv_ldc2 hx hb hown (hts _ k_9) d_Fi_findCentre_81 ?_
    refine fh_lrem S d_Fi_findCentre_84 (by decide) ?_
    obtain ⟨x17, e_x17, hf⟩ := fh_b hf
    refine fh_topl e_x17 ?_
    refine lv_lstore (lv' := [(12, .long x17), (10, .long r7.1), (8, .long r5.1), (6, .long r3.1), (4, .long r2.1), (0, va_rf (some o)), (1, .int a1), (2, .int a2), (3, .int a3)]) hx hb d_Fi_findCentre_85 hl (by decide) rfl (fun ls hl => ?_)
    refine lv_lload hx hb d_Fi_findCentre_87 (lv_at hl 1 rfl) ?_
    refine fh_aload_n S d_Fi_findCentre_89 rfl (lv_at hl 5 rfl) ?_
    obtain ⟨x18, e_x18, hf⟩ := fh_b hf
    refine fh_geta S hE.1 hI e_x18 (hc := rfl) (hin := in_4) (by decide) (hts _ k_15) d_Fi_findCentre_90 ?_
    refine lv_iload_n hx hb d_Fi_findCentre_93 rfl (lv_at hl 7 rfl) ?_
    obtain ⟨x19, e_x19, hf⟩ := fh_b hf
    refine fh_iald S hE.1 hI 0 rfl e_x19 d_Fi_findCentre_94 ?_
    refine fh_aload_n S d_Fi_findCentre_95 rfl (lv_at hl 5 rfl) ?_
    obtain ⟨x20, e_x20, hf⟩ := fh_b hf
    refine fh_geta S hE.1 hI e_x20 (hc := rfl) (hin := in_4) (by decide) (hts _ k_15) d_Fi_findCentre_96 ?_
    refine lv_iload_n hx hb d_Fi_findCentre_99 rfl (lv_at hl 6 rfl) ?_
    obtain ⟨x21, e_x21, hf⟩ := fh_b hf
    refine fh_iald S hE.1 hI 0 rfl e_x21 d_Fi_findCentre_100 ?_
    refine lv_isub hx hb d_Fi_findCentre_101 ?_
    refine lv_i2l hx hb d_Fi_findCentre_102 rfl ?_
    refine lv_lmul hx hb d_Fi_findCentre_103 ?_
    refine lv_lload hx hb d_Fi_findCentre_104 (lv_at hl 2 rfl) ?_
    refine fh_aload_n S d_Fi_findCentre_106 rfl (lv_at hl 5 rfl) ?_
    obtain ⟨x22, e_x22, hf⟩ := fh_b hf
    refine fh_geta S hE.1 hI e_x22 (hc := rfl) (hin := in_4) (by decide) (hts _ k_15) d_Fi_findCentre_107 ?_
    refine lv_iload_n hx hb d_Fi_findCentre_110 rfl (lv_at hl 8 rfl) ?_
    obtain ⟨x23, e_x23, hf⟩ := fh_b hf
    refine fh_iald S hE.1 hI 0 rfl e_x23 d_Fi_findCentre_111 ?_
    refine fh_aload_n S d_Fi_findCentre_112 rfl (lv_at hl 5 rfl) ?_
    obtain ⟨x24, e_x24, hf⟩ := fh_b hf
    refine fh_geta S hE.1 hI e_x24 (hc := rfl) (hin := in_4) (by decide) (hts _ k_15) d_Fi_findCentre_113 ?_
    refine lv_iload_n hx hb d_Fi_findCentre_116 rfl (lv_at hl 6 rfl) ?_
    obtain ⟨x25, e_x25, hf⟩ := fh_b hf
    refine fh_iald S hE.1 hI 0 rfl e_x25 d_Fi_findCentre_117 ?_
    refine lv_isub hx hb d_Fi_findCentre_118 ?_
    refine lv_i2l hx hb d_Fi_findCentre_119 rfl ?_
    refine lv_lmul hx hb d_Fi_findCentre_120 ?_
    refine lv_lsub hx hb d_Fi_findCentre_121 ?_
    obtain ⟨x26, e_x26, hf⟩ := fh_b hf
    refine fh_topl e_x26 ?_
    refine lv_ldc2 hx hb hown (hts _ k_9) d_Fi_findCentre_122 ?_
    refine fh_lrem S d_Fi_findCentre_125 (by decide) ?_
    obtain ⟨x27, e_x27, hf⟩ := fh_b hf
    refine fh_topl e_x27 ?_
    refine lv_lstore (lv' := [(14, .long x27), (12, .long x17), (10, .long r7.1), (8, .long r5.1), (6, .long r3.1), (4, .long r2.1), (0, va_rf (some o)), (1, .int a1), (2, .int a2), (3, .int a3)]) hx hb d_Fi_findCentre_126 hl (by decide) rfl (fun ls hl => ?_)
    refine fh_aload_n S d_Fi_findCentre_128 rfl (lv_at hl 6 rfl) ?_
    refine fh_aload_n S d_Fi_findCentre_129 rfl (lv_at hl 6 rfl) ?_
    obtain ⟨x28, e_x28, hf⟩ := fh_b hf
    refine fh_geta S hE.1 hI e_x28 (hc := rfl) (hin := in_4) (by decide) (hts _ k_15) d_Fi_findCentre_130 ?_
    refine lv_iload_n hx hb d_Fi_findCentre_133 rfl (lv_at hl 7 rfl) ?_
    obtain ⟨x29, e_x29, hf⟩ := fh_b hf
    refine fh_iald S hE.1 hI 0 rfl e_x29 d_Fi_findCentre_134 ?_
    refine lv_i2l hx hb d_Fi_findCentre_135 rfl ?_
    refine lv_lload hx hb d_Fi_findCentre_136 (lv_at hl 1 rfl) ?_
    refine lv_lload hx hb d_Fi_findCentre_138 (lv_at hl 4 rfl) ?_
    refine lv_lmul hx hb d_Fi_findCentre_140 ?_
    refine lv_ladd hx hb d_Fi_findCentre_141 ?_
    refine fh_aload_n S d_Fi_findCentre_142 rfl (lv_at hl 6 rfl) ?_
    obtain ⟨x30, e_x30, hf⟩ := fh_b hf
    refine fh_geta S hE.1 hI e_x30 (hc := rfl) (hin := in_4) (by decide) (hts _ k_16) d_Fi_findCentre_143 ?_
    refine lv_iload_n hx hb d_Fi_findCentre_146 rfl (lv_at hl 7 rfl) ?_
    obtain ⟨x31, e_x31, hf⟩ := fh_b hf
    refine fh_iald S hE.1 hI 0 rfl e_x31 d_Fi_findCentre_147 ?_
    refine lv_i2l hx hb d_Fi_findCentre_148 rfl ?_
    refine lv_lload hx hb d_Fi_findCentre_149 (lv_at hl 0 rfl) ?_
    refine lv_lload hx hb d_Fi_findCentre_151 (lv_at hl 4 rfl) ?_
    refine lv_lmul hx hb d_Fi_findCentre_153 ?_
    refine lv_ladd hx hb d_Fi_findCentre_154 ?_
    obtain ⟨o32, e_o32, hf⟩ := fh_b hf
    obtain ⟨r33, e_r33, hf⟩ := fh_b hf
    refine fh_callV (As := [.long (x29.toInt64 + (x17 * r3.1)), .long (x31.toInt64 + (x27 * r3.1))]) (rest := []) S fT_good hE hI e_o32 rfl (c_Fi_found e_r33) fy_Fi_found fst_Fi_found k_14 ⟨rfl, rfl⟩ ⟨Nat.le_of_ble_eq_true rfl, Nat.le_of_ble_eq_true rfl⟩ ⟨Nat.zero_le _, Nat.zero_le _⟩ rfl hl.1 rfl (Nat.le_of_ble_eq_true rfl) d_Fi_findCentre_155 (fun H locs hI => ?_)
    obtain ⟨hz, rfl⟩ := fz_s hf
    exact fh_iret S hr hk (fh_nb hz) hAe hI d_Fi_findCentre_158
  · replace hf := fh_t c_14 hf
    refine lv_iconst (v := 0) hx hb d_Fi_findCentre_17 (by decide) ?_
    obtain rfl := Option.some.inj hf
    exact fh_iret S hr hk (fh_nb (Or.inl rfl)) hAe hI d_Fi_findCentre_18
theorem d_Fi_findOnCircle_0 : decode c0_Fi_findOnCircle 0 = .ok (.lconst 1, 1) := by decide +kernel
theorem d_Fi_findOnCircle_1 : decode c0_Fi_findOnCircle 1 = .ok (.lload_n 3, 1) := by decide +kernel
theorem d_Fi_findOnCircle_2 : decode c0_Fi_findOnCircle 2 = .ok (.lload_n 3, 1) := by decide +kernel
theorem d_Fi_findOnCircle_3 : decode c0_Fi_findOnCircle 3 = .ok (.lmul, 1) := by decide +kernel
theorem d_Fi_findOnCircle_4 : decode c0_Fi_findOnCircle 4 = .ok (.ladd, 1) := by decide +kernel
theorem d_Fi_findOnCircle_5 : decode c0_Fi_findOnCircle 5 = .ok (.ldc2_w 88, 3) := by decide +kernel
theorem d_Fi_findOnCircle_8 : decode c0_Fi_findOnCircle 8 = .ok (.lrem, 1) := by decide +kernel
theorem d_Fi_findOnCircle_9 : decode c0_Fi_findOnCircle 9 = .ok (.lstore 5, 2) := by decide +kernel
theorem d_Fi_findOnCircle_11 : decode c0_Fi_findOnCircle 11 = .ok (.lload 5, 2) := by decide +kernel
theorem d_Fi_findOnCircle_13 : decode c0_Fi_findOnCircle 13 = .ok (.lconst 0, 1) := by decide +kernel
theorem d_Fi_findOnCircle_14 : decode c0_Fi_findOnCircle 14 = .ok (.lcmp, 1) := by decide +kernel
theorem d_Fi_findOnCircle_15 : decode c0_Fi_findOnCircle 15 = .ok (.ifCond .ne 5, 3) := by decide +kernel
theorem d_Fi_findOnCircle_18 : decode c0_Fi_findOnCircle 18 = .ok (.iconst 0, 1) := by decide +kernel
theorem d_Fi_findOnCircle_19 : decode c0_Fi_findOnCircle 19 = .ok (.ireturn, 1) := by decide +kernel
theorem d_Fi_findOnCircle_20 : decode c0_Fi_findOnCircle 20 = .ok (.aload_n 0, 1) := by decide +kernel
theorem d_Fi_findOnCircle_21 : decode c0_Fi_findOnCircle 21 = .ok (.getfield 9, 3) := by decide +kernel
theorem d_Fi_findOnCircle_24 : decode c0_Fi_findOnCircle 24 = .ok (.iload_n 2, 1) := by decide +kernel
theorem d_Fi_findOnCircle_25 : decode c0_Fi_findOnCircle 25 = .ok (.iaload, 1) := by decide +kernel
theorem d_Fi_findOnCircle_26 : decode c0_Fi_findOnCircle 26 = .ok (.aload_n 0, 1) := by decide +kernel
theorem d_Fi_findOnCircle_27 : decode c0_Fi_findOnCircle 27 = .ok (.getfield 9, 3) := by decide +kernel
theorem d_Fi_findOnCircle_30 : decode c0_Fi_findOnCircle 30 = .ok (.iload_n 1, 1) := by decide +kernel
theorem d_Fi_findOnCircle_31 : decode c0_Fi_findOnCircle 31 = .ok (.iaload, 1) := by decide +kernel
theorem d_Fi_findOnCircle_32 : decode c0_Fi_findOnCircle 32 = .ok (.isub, 1) := by decide +kernel
theorem d_Fi_findOnCircle_33 : decode c0_Fi_findOnCircle 33 = .ok (.i2l, 1) := by decide +kernel
theorem d_Fi_findOnCircle_34 : decode c0_Fi_findOnCircle 34 = .ok (.lload_n 3, 1) := by decide +kernel
theorem d_Fi_findOnCircle_35 : decode c0_Fi_findOnCircle 35 = .ok (.aload_n 0, 1) := by decide +kernel
theorem d_Fi_findOnCircle_36 : decode c0_Fi_findOnCircle 36 = .ok (.getfield 15, 3) := by decide +kernel
theorem d_Fi_findOnCircle_39 : decode c0_Fi_findOnCircle 39 = .ok (.iload_n 2, 1) := by decide +kernel
theorem d_Fi_findOnCircle_40 : decode c0_Fi_findOnCircle 40 = .ok (.iaload, 1) := by decide +kernel
theorem d_Fi_findOnCircle_41 : decode c0_Fi_findOnCircle 41 = .ok (.aload_n 0, 1) := by decide +kernel
theorem d_Fi_findOnCircle_42 : decode c0_Fi_findOnCircle 42 = .ok (.getfield 15, 3) := by decide +kernel
theorem d_Fi_findOnCircle_45 : decode c0_Fi_findOnCircle 45 = .ok (.iload_n 1, 1) := by decide +kernel
theorem d_Fi_findOnCircle_46 : decode c0_Fi_findOnCircle 46 = .ok (.iaload, 1) := by decide +kernel
theorem d_Fi_findOnCircle_47 : decode c0_Fi_findOnCircle 47 = .ok (.isub, 1) := by decide +kernel
theorem d_Fi_findOnCircle_48 : decode c0_Fi_findOnCircle 48 = .ok (.i2l, 1) := by decide +kernel
theorem d_Fi_findOnCircle_49 : decode c0_Fi_findOnCircle 49 = .ok (.lmul, 1) := by decide +kernel
theorem d_Fi_findOnCircle_50 : decode c0_Fi_findOnCircle 50 = .ok (.ladd, 1) := by decide +kernel
theorem d_Fi_findOnCircle_51 : decode c0_Fi_findOnCircle 51 = .ok (.ldc2_w 88, 3) := by decide +kernel
theorem d_Fi_findOnCircle_54 : decode c0_Fi_findOnCircle 54 = .ok (.lrem, 1) := by decide +kernel
theorem d_Fi_findOnCircle_55 : decode c0_Fi_findOnCircle 55 = .ok (.lstore 7, 2) := by decide +kernel
theorem d_Fi_findOnCircle_57 : decode c0_Fi_findOnCircle 57 = .ok (.lload 7, 2) := by decide +kernel
theorem d_Fi_findOnCircle_59 : decode c0_Fi_findOnCircle 59 = .ok (.lload 5, 2) := by decide +kernel
theorem d_Fi_findOnCircle_61 : decode c0_Fi_findOnCircle 61 = .ok (.invokestatic 99, 3) := by decide +kernel
theorem d_Fi_findOnCircle_64 : decode c0_Fi_findOnCircle 64 = .ok (.lmul, 1) := by decide +kernel
theorem d_Fi_findOnCircle_65 : decode c0_Fi_findOnCircle 65 = .ok (.ldc2_w 88, 3) := by decide +kernel
theorem d_Fi_findOnCircle_68 : decode c0_Fi_findOnCircle 68 = .ok (.lrem, 1) := by decide +kernel
theorem d_Fi_findOnCircle_69 : decode c0_Fi_findOnCircle 69 = .ok (.lstore 9, 2) := by decide +kernel
theorem d_Fi_findOnCircle_71 : decode c0_Fi_findOnCircle 71 = .ok (.aload_n 0, 1) := by decide +kernel
theorem d_Fi_findOnCircle_72 : decode c0_Fi_findOnCircle 72 = .ok (.aload_n 0, 1) := by decide +kernel
theorem d_Fi_findOnCircle_73 : decode c0_Fi_findOnCircle 73 = .ok (.getfield 9, 3) := by decide +kernel
theorem d_Fi_findOnCircle_76 : decode c0_Fi_findOnCircle 76 = .ok (.iload_n 2, 1) := by decide +kernel
theorem d_Fi_findOnCircle_77 : decode c0_Fi_findOnCircle 77 = .ok (.iaload, 1) := by decide +kernel
theorem d_Fi_findOnCircle_78 : decode c0_Fi_findOnCircle 78 = .ok (.i2l, 1) := by decide +kernel
theorem d_Fi_findOnCircle_79 : decode c0_Fi_findOnCircle 79 = .ok (.ldc2_w 107, 3) := by decide +kernel
theorem d_Fi_findOnCircle_82 : decode c0_Fi_findOnCircle 82 = .ok (.lload 9, 2) := by decide +kernel
theorem d_Fi_findOnCircle_84 : decode c0_Fi_findOnCircle 84 = .ok (.lmul, 1) := by decide +kernel
theorem d_Fi_findOnCircle_85 : decode c0_Fi_findOnCircle 85 = .ok (.lsub, 1) := by decide +kernel
theorem d_Fi_findOnCircle_86 : decode c0_Fi_findOnCircle 86 = .ok (.aload_n 0, 1) := by decide +kernel
theorem d_Fi_findOnCircle_87 : decode c0_Fi_findOnCircle 87 = .ok (.getfield 15, 3) := by decide +kernel
theorem d_Fi_findOnCircle_90 : decode c0_Fi_findOnCircle 90 = .ok (.iload_n 2, 1) := by decide +kernel
theorem d_Fi_findOnCircle_91 : decode c0_Fi_findOnCircle 91 = .ok (.iaload, 1) := by decide +kernel
theorem d_Fi_findOnCircle_92 : decode c0_Fi_findOnCircle 92 = .ok (.i2l, 1) := by decide +kernel
theorem d_Fi_findOnCircle_93 : decode c0_Fi_findOnCircle 93 = .ok (.ldc2_w 107, 3) := by decide +kernel
theorem d_Fi_findOnCircle_96 : decode c0_Fi_findOnCircle 96 = .ok (.lload 9, 2) := by decide +kernel
theorem d_Fi_findOnCircle_98 : decode c0_Fi_findOnCircle 98 = .ok (.lmul, 1) := by decide +kernel
theorem d_Fi_findOnCircle_99 : decode c0_Fi_findOnCircle 99 = .ok (.lload_n 3, 1) := by decide +kernel
theorem d_Fi_findOnCircle_100 : decode c0_Fi_findOnCircle 100 = .ok (.lmul, 1) := by decide +kernel
theorem d_Fi_findOnCircle_101 : decode c0_Fi_findOnCircle 101 = .ok (.lsub, 1) := by decide +kernel
theorem d_Fi_findOnCircle_102 : decode c0_Fi_findOnCircle 102 = .ok (.invokevirtual 57, 3) := by decide +kernel
theorem d_Fi_findOnCircle_105 : decode c0_Fi_findOnCircle 105 = .ok (.ireturn, 1) := by decide +kernel
def f_Fi_findOnCircle (K : Nat → ClassId) (N : Nat) (o : Nat) (a1 : Int32) (a2 : Int32) (a3 : Int64) (h0 : fh_H) : Option (Int32 × fh_H) :=
  (some (fr_l (1 + (a3 * a3)) 1000003)).bind fun x1 => if (lg_cmp x1 0) = 0 then (some (0, h0)) else ((fg_a h0 (some o) 4 0).bind fun x2 => (fa_i (K 0) h0 x2 a2).bind fun x3 => (fg_a h0 (some o) 4 0).bind fun x4 => (fa_i (K 0) h0 x4 a1).bind fun x5 => (fg_a h0 (some o) 4 1).bind fun x6 => (fa_i (K 0) h0 x6 a2).bind fun x7 => (fg_a h0 (some o) 4 1).bind fun x8 => (fa_i (K 0) h0 x8 a1).bind fun x9 => (some (fr_l (((x3 - x5).toInt64) + (a3 * ((x7 - x9).toInt64))) 1000003)).bind fun x10 => (f_FF_invert K N x1 h0).bind fun r11 => (some (fr_l (x10 * r11.1) 1000003)).bind fun x12 => (fg_a r11.2 (some o) 4 0).bind fun x13 => (fa_i (K 0) r11.2 x13 a2).bind fun x14 => (fg_a r11.2 (some o) 4 1).bind fun x15 => (fa_i (K 0) r11.2 x15 a2).bind fun x16 => (fg_o r11.2 (some o) 4).bind fun o17 => (f_Fi_found K N o17 (x14.toInt64 - (2 * x12)) (x16.toInt64 - ((2 * x12) * a3)) r11.2).bind fun r18 => fz r18.1 r18.2)
set_option maxHeartbeats 4000000 in
set_option maxRecDepth 100000 in
theorem c_Fi_findOnCircle {l : Launch} {D : va_G} {K : Nat → ClassId} {t : Nat → Nat} {N : Nat} {o : Nat} {a1 : Int32} {a2 : Int32} {a3 : Int64} {h0 : fh_H} {res : Int32 × fh_H} (hf : f_Fi_findOnCircle K N o a1 a2 a3 h0 = some res) : fC l D K t y_Fi_findOnCircle c0_Fi_findOnCircle 11 (some .boolean) rm_Fi_findOnCircle [.ref o, .int a1, .int a2, .long a3] h0 (some (.int res.1)) res.2 := by
  refine fh_body (by decide) (Nat.le_of_ble_eq_true rfl) ?_
  intro p e s m below meth c A ls S hr hk hnm hE hAe hI hl
  obtain ⟨hx, hb, hml, hown, hts⟩ := id S
  have hl : lv_has ls 11 [(0, va_rf (some o)), (1, .int a1), (2, .int a2), (3, .long a3)] := hl
  unfold f_Fi_findOnCircle at hf
  refine lv_lconst (v := 1) hx hb d_Fi_findOnCircle_0 (by decide) ?_
  refine lv_lload_n hx hb d_Fi_findOnCircle_1 rfl (lv_at hl 3 rfl) ?_
  refine lv_lload_n hx hb d_Fi_findOnCircle_2 rfl (lv_at hl 3 rfl) ?_
  refine lv_lmul hx hb d_Fi_findOnCircle_3 ?_
  refine lv_ladd hx hb d_Fi_findOnCircle_4 ?_
  refine lv_ldc2 hx hb hown (hts _ k_9) d_Fi_findOnCircle_5 ?_
  refine fh_lrem S d_Fi_findOnCircle_8 (by decide) ?_
  obtain ⟨x1, e_x1, hf⟩ := fh_b hf
  refine fh_topl e_x1 ?_
  refine lv_lstore (lv' := [(5, .long x1), (0, va_rf (some o)), (1, .int a1), (2, .int a2), (3, .long a3)]) hx hb d_Fi_findOnCircle_9 hl (by decide) rfl (fun ls hl => ?_)
  refine lv_lload hx hb d_Fi_findOnCircle_11 (lv_at hl 0 rfl) ?_
  refine lv_lconst (v := 0) hx hb d_Fi_findOnCircle_13 (by decide) ?_
  refine W.lcmp hx hb d_Fi_findOnCircle_14 ?_
  refine lv_if_ne (tgt := 20) hx hb d_Fi_findOnCircle_15 (by decide) (fun c_15 => ?_) (fun c_15 => ?_)
  · replace hf := fh_f c_15 hf
    refine fh_aload_n S d_Fi_findOnCircle_20 rfl (lv_at hl 1 rfl) ?_
    obtain ⟨x2, e_x2, hf⟩ := fh_b hf
    refine fh_geta S hE.1 hI e_x2 (hc := rfl) (hin := in_4) (by decide) (hts _ k_15) d_Fi_findOnCircle_21 ?_
    refine lv_iload_n hx hb d_Fi_findOnCircle_24 rfl (lv_at hl 3 rfl) ?_
    obtain ⟨x3, e_x3, hf⟩ := fh_b hf
    refine fh_iald S hE.1 hI 0 rfl e_x3 d_Fi_findOnCircle_25 ?_
    refine fh_aload_n S d_Fi_findOnCircle_26 rfl (lv_at hl 1 rfl) ?_
    obtain ⟨x4, e_x4, hf⟩ := fh_b hf
    refine fh_geta S hE.1 hI e_x4 (hc := rfl) (hin := in_4) (by decide) (hts _ k_15) d_Fi_findOnCircle_27 ?_
    refine lv_iload_n hx hb d_Fi_findOnCircle_30 rfl (lv_at hl 2 rfl) ?_
    obtain ⟨x5, e_x5, hf⟩ := fh_b hf
    refine fh_iald S hE.1 hI 0 rfl e_x5 d_Fi_findOnCircle_31 ?_
    refine lv_isub hx hb d_Fi_findOnCircle_32 ?_
    refine lv_i2l hx hb d_Fi_findOnCircle_33 rfl ?_
    refine lv_lload_n hx hb d_Fi_findOnCircle_34 rfl (lv_at hl 4 rfl) ?_
    refine fh_aload_n S d_Fi_findOnCircle_35 rfl (lv_at hl 1 rfl) ?_
    obtain ⟨x6, e_x6, hf⟩ := fh_b hf
    refine fh_geta S hE.1 hI e_x6 (hc := rfl) (hin := in_4) (by decide) (hts _ k_16) d_Fi_findOnCircle_36 ?_
    refine lv_iload_n hx hb d_Fi_findOnCircle_39 rfl (lv_at hl 3 rfl) ?_
    obtain ⟨x7, e_x7, hf⟩ := fh_b hf
    refine fh_iald S hE.1 hI 0 rfl e_x7 d_Fi_findOnCircle_40 ?_
    refine fh_aload_n S d_Fi_findOnCircle_41 rfl (lv_at hl 1 rfl) ?_
    obtain ⟨x8, e_x8, hf⟩ := fh_b hf
    refine fh_geta S hE.1 hI e_x8 (hc := rfl) (hin := in_4) (by decide) (hts _ k_16) d_Fi_findOnCircle_42 ?_
    refine lv_iload_n hx hb d_Fi_findOnCircle_45 rfl (lv_at hl 2 rfl) ?_
    obtain ⟨x9, e_x9, hf⟩ := fh_b hf
    refine fh_iald S hE.1 hI 0 rfl e_x9 d_Fi_findOnCircle_46 ?_
    refine lv_isub hx hb d_Fi_findOnCircle_47 ?_
    refine lv_i2l hx hb d_Fi_findOnCircle_48 rfl ?_
    refine lv_lmul hx hb d_Fi_findOnCircle_49 ?_
    refine lv_ladd hx hb d_Fi_findOnCircle_50 ?_
    refine lv_ldc2 hx hb hown (hts _ k_9) d_Fi_findOnCircle_51 ?_
    refine fh_lrem S d_Fi_findOnCircle_54 (by decide) ?_
    obtain ⟨x10, e_x10, hf⟩ := fh_b hf
    refine fh_topl e_x10 ?_
    refine lv_lstore (lv' := [(7, .long x10), (5, .long x1), (0, va_rf (some o)), (1, .int a1), (2, .int a2), (3, .long a3)]) hx hb d_Fi_findOnCircle_55 hl (by decide) rfl (fun ls hl => ?_)
    refine lv_lload hx hb d_Fi_findOnCircle_57 (lv_at hl 0 rfl) ?_
    refine lv_lload hx hb d_Fi_findOnCircle_59 (lv_at hl 1 rfl) ?_
    obtain ⟨r11, e_r11, hf⟩ := fh_b hf
    refine fh_callSN (As := [.long x1]) (rest := [.long x10]) S fT_good hE hI (c_FF_invert e_r11) fy_FF_invert fst_FF_invert kn_0 ⟨rfl, rfl⟩ ⟨Nat.le_of_ble_eq_true rfl, Nat.le_of_ble_eq_true rfl⟩ ⟨Nat.zero_le _, Nat.zero_le _⟩ rfl hl.1 rfl (Nat.le_of_ble_eq_true rfl) d_Fi_findOnCircle_61 (fun H locs hI => ?_)
    refine lv_lmul hx hb d_Fi_findOnCircle_64 ?_
    refine lv_ldc2 hx hb hown (hts _ k_9) d_Fi_findOnCircle_65 ?_
    refine fh_lrem S d_Fi_findOnCircle_68 (by decide) ?_
    obtain ⟨x12, e_x12, hf⟩ := fh_b hf
    refine fh_topl e_x12 ?_
    refine lv_lstore (lv' := [(9, .long x12), (7, .long x10), (5, .long x1), (0, va_rf (some o)), (1, .int a1), (2, .int a2), (3, .long a3)]) hx hb d_Fi_findOnCircle_69 hl (by decide) rfl (fun ls hl => ?_)
    refine fh_aload_n S d_Fi_findOnCircle_71 rfl (lv_at hl 3 rfl) ?_
    refine fh_aload_n S d_Fi_findOnCircle_72 rfl (lv_at hl 3 rfl) ?_
    obtain ⟨x13, e_x13, hf⟩ := fh_b hf
    refine fh_geta S hE.1 hI e_x13 (hc := rfl) (hin := in_4) (by decide) (hts _ k_15) d_Fi_findOnCircle_73 ?_
    refine lv_iload_n hx hb d_Fi_findOnCircle_76 rfl (lv_at hl 5 rfl) ?_
    obtain ⟨x14, e_x14, hf⟩ := fh_b hf
    refine fh_iald S hE.1 hI 0 rfl e_x14 d_Fi_findOnCircle_77 ?_
    refine lv_i2l hx hb d_Fi_findOnCircle_78 rfl ?_
    refine lv_ldc2 hx hb hown (hts _ k_22) d_Fi_findOnCircle_79 ?_
    refine lv_lload hx hb d_Fi_findOnCircle_82 (lv_at hl 0 rfl) ?_
    refine lv_lmul hx hb d_Fi_findOnCircle_84 ?_
    refine lv_lsub hx hb d_Fi_findOnCircle_85 ?_
    refine fh_aload_n S d_Fi_findOnCircle_86 rfl (lv_at hl 3 rfl) ?_
    obtain ⟨x15, e_x15, hf⟩ := fh_b hf
    refine fh_geta S hE.1 hI e_x15 (hc := rfl) (hin := in_4) (by decide) (hts _ k_16) d_Fi_findOnCircle_87 ?_
    refine lv_iload_n hx hb d_Fi_findOnCircle_90 rfl (lv_at hl 5 rfl) ?_
    obtain ⟨x16, e_x16, hf⟩ := fh_b hf
    refine fh_iald S hE.1 hI 0 rfl e_x16 d_Fi_findOnCircle_91 ?_
    refine lv_i2l hx hb d_Fi_findOnCircle_92 rfl ?_
    refine lv_ldc2 hx hb hown (hts _ k_22) d_Fi_findOnCircle_93 ?_
    refine lv_lload hx hb d_Fi_findOnCircle_96 (lv_at hl 0 rfl) ?_
    refine lv_lmul hx hb d_Fi_findOnCircle_98 ?_
    refine lv_lload_n hx hb d_Fi_findOnCircle_99 rfl (lv_at hl 6 rfl) ?_
    refine lv_lmul hx hb d_Fi_findOnCircle_100 ?_
    refine lv_lsub hx hb d_Fi_findOnCircle_101 ?_
    obtain ⟨o17, e_o17, hf⟩ := fh_b hf
    obtain ⟨r18, e_r18, hf⟩ := fh_b hf
    refine fh_callV (As := [.long (x14.toInt64 - (2 * x12)), .long (x16.toInt64 - ((2 * x12) * a3))]) (rest := []) S fT_good hE hI e_o17 rfl (c_Fi_found e_r18) fy_Fi_found fst_Fi_found k_14 ⟨rfl, rfl⟩ ⟨Nat.le_of_ble_eq_true rfl, Nat.le_of_ble_eq_true rfl⟩ ⟨Nat.zero_le _, Nat.zero_le _⟩ rfl hl.1 rfl (Nat.le_of_ble_eq_true rfl) d_Fi_findOnCircle_102 (fun H locs hI => ?_)
    obtain ⟨hz, rfl⟩ := fz_s hf
    exact fh_iret S hr hk (fh_nb hz) hAe hI d_Fi_findOnCircle_105
  · replace hf := fh_t c_15 hf
    refine lv_iconst (v := 0) hx hb d_Fi_findOnCircle_18 (by decide) ?_
    obtain rfl := Option.some.inj hf
    exact fh_iret S hr hk (fh_nb (Or.inl rfl)) hAe hI d_Fi_findOnCircle_19
theorem d_Fi_findTurnedOut_0 : decode c0_Fi_findTurnedOut 0 = .ok (.aload_n 0, 1) := by decide +kernel
theorem d_Fi_findTurnedOut_1 : decode c0_Fi_findTurnedOut 1 = .ok (.iload_n 2, 1) := by decide +kernel
theorem d_Fi_findTurnedOut_2 : decode c0_Fi_findTurnedOut 2 = .ok (.iload_n 1, 1) := by decide +kernel
theorem d_Fi_findTurnedOut_3 : decode c0_Fi_findTurnedOut 3 = .ok (.invokevirtual 95, 3) := by decide +kernel
theorem d_Fi_findTurnedOut_6 : decode c0_Fi_findTurnedOut 6 = .ok (.lstore 4, 2) := by decide +kernel
theorem d_Fi_findTurnedOut_8 : decode c0_Fi_findTurnedOut 8 = .ok (.lload 4, 2) := by decide +kernel
theorem d_Fi_findTurnedOut_10 : decode c0_Fi_findTurnedOut 10 = .ok (.lconst 0, 1) := by decide +kernel
theorem d_Fi_findTurnedOut_11 : decode c0_Fi_findTurnedOut 11 = .ok (.lcmp, 1) := by decide +kernel
theorem d_Fi_findTurnedOut_12 : decode c0_Fi_findTurnedOut 12 = .ok (.ifCond .ne 5, 3) := by decide +kernel
theorem d_Fi_findTurnedOut_15 : decode c0_Fi_findTurnedOut 15 = .ok (.iconst 0, 1) := by decide +kernel
theorem d_Fi_findTurnedOut_16 : decode c0_Fi_findTurnedOut 16 = .ok (.ireturn, 1) := by decide +kernel
theorem d_Fi_findTurnedOut_17 : decode c0_Fi_findTurnedOut 17 = .ok (.aload_n 0, 1) := by decide +kernel
theorem d_Fi_findTurnedOut_18 : decode c0_Fi_findTurnedOut 18 = .ok (.iload_n 2, 1) := by decide +kernel
theorem d_Fi_findTurnedOut_19 : decode c0_Fi_findTurnedOut 19 = .ok (.iload_n 1, 1) := by decide +kernel
theorem d_Fi_findTurnedOut_20 : decode c0_Fi_findTurnedOut 20 = .ok (.aload_n 0, 1) := by decide +kernel
theorem d_Fi_findTurnedOut_21 : decode c0_Fi_findTurnedOut 21 = .ok (.iload_n 2, 1) := by decide +kernel
theorem d_Fi_findTurnedOut_22 : decode c0_Fi_findTurnedOut 22 = .ok (.iload_n 3, 1) := by decide +kernel
theorem d_Fi_findTurnedOut_23 : decode c0_Fi_findTurnedOut 23 = .ok (.invokevirtual 95, 3) := by decide +kernel
theorem d_Fi_findTurnedOut_26 : decode c0_Fi_findTurnedOut 26 = .ok (.lload 4, 2) := by decide +kernel
theorem d_Fi_findTurnedOut_28 : decode c0_Fi_findTurnedOut 28 = .ok (.invokestatic 99, 3) := by decide +kernel
theorem d_Fi_findTurnedOut_31 : decode c0_Fi_findTurnedOut 31 = .ok (.lmul, 1) := by decide +kernel
theorem d_Fi_findTurnedOut_32 : decode c0_Fi_findTurnedOut 32 = .ok (.ldc2_w 88, 3) := by decide +kernel
theorem d_Fi_findTurnedOut_35 : decode c0_Fi_findTurnedOut 35 = .ok (.lrem, 1) := by decide +kernel
theorem d_Fi_findTurnedOut_36 : decode c0_Fi_findTurnedOut 36 = .ok (.invokevirtual 76, 3) := by decide +kernel
theorem d_Fi_findTurnedOut_39 : decode c0_Fi_findTurnedOut 39 = .ok (.ireturn, 1) := by decide +kernel
def f_Fi_findTurnedOut (K : Nat → ClassId) (N : Nat) (o : Nat) (a1 : Int32) (a2 : Int32) (a3 : Int32) (h0 : fh_H) : Option (Int32 × fh_H) :=
  (fg_o h0 (some o) 4).bind fun o1 => (f_Fi_length K N o1 a2 a1 h0).bind fun r2 => if (lg_cmp r2.1 0) = 0 then (some (0, r2.2)) else ((fg_o r2.2 (some o) 4).bind fun o3 => (f_Fi_length K N o3 a2 a3 r2.2).bind fun r4 => (f_FF_invert K N r2.1 r4.2).bind fun r5 => (fg_o r5.2 (some o) 4).bind fun o6 => (f_Fi_findAlong K N o6 a2 a1 (fr_l (r4.1 * r5.1) 1000003) r5.2).bind fun r7 => fz r7.1 r7.2)
set_option maxHeartbeats 4000000 in
set_option maxRecDepth 100000 in
theorem c_Fi_findTurnedOut {l : Launch} {D : va_G} {K : Nat → ClassId} {t : Nat → Nat} {N : Nat} {o : Nat} {a1 : Int32} {a2 : Int32} {a3 : Int32} {h0 : fh_H} {res : Int32 × fh_H} (hf : f_Fi_findTurnedOut K N o a1 a2 a3 h0 = some res) : fC l D K t y_Fi_findTurnedOut c0_Fi_findTurnedOut 6 (some .boolean) rm_Fi_findTurnedOut [.ref o, .int a1, .int a2, .int a3] h0 (some (.int res.1)) res.2 := by
  refine fh_body (by decide) (Nat.le_of_ble_eq_true rfl) ?_
  intro p e s m below meth c A ls S hr hk hnm hE hAe hI hl
  obtain ⟨hx, hb, hml, hown, hts⟩ := id S
  have hl : lv_has ls 6 [(0, va_rf (some o)), (1, .int a1), (2, .int a2), (3, .int a3)] := hl
  unfold f_Fi_findTurnedOut at hf
  refine fh_aload_n S d_Fi_findTurnedOut_0 rfl (lv_at hl 0 rfl) ?_
  refine lv_iload_n hx hb d_Fi_findTurnedOut_1 rfl (lv_at hl 2 rfl) ?_
  refine lv_iload_n hx hb d_Fi_findTurnedOut_2 rfl (lv_at hl 1 rfl) ?_
  obtain ⟨o1, e_o1, hf⟩ := fh_b hf
  obtain ⟨r2, e_r2, hf⟩ := fh_b hf
  refine fh_callV (As := [.int a2, .int a1]) (rest := []) S fT_good hE hI e_o1 rfl (c_Fi_length e_r2) fy_Fi_length fst_Fi_length k_19 ⟨rfl, rfl⟩ ⟨Nat.le_of_ble_eq_true rfl, Nat.le_of_ble_eq_true rfl⟩ ⟨Nat.zero_le _, Nat.zero_le _⟩ rfl hl.1 rfl (Nat.le_of_ble_eq_true rfl) d_Fi_findTurnedOut_3 (fun H locs hI => ?_)
  refine lv_lstore (lv' := [(4, .long r2.1), (0, va_rf (some o)), (1, .int a1), (2, .int a2), (3, .int a3)]) hx hb d_Fi_findTurnedOut_6 hl (by decide) rfl (fun ls hl => ?_)
  refine lv_lload hx hb d_Fi_findTurnedOut_8 (lv_at hl 0 rfl) ?_
  refine lv_lconst (v := 0) hx hb d_Fi_findTurnedOut_10 (by decide) ?_
  refine W.lcmp hx hb d_Fi_findTurnedOut_11 ?_
  refine lv_if_ne (tgt := 17) hx hb d_Fi_findTurnedOut_12 (by decide) (fun c_12 => ?_) (fun c_12 => ?_)
  · replace hf := fh_f c_12 hf
    refine fh_aload_n S d_Fi_findTurnedOut_17 rfl (lv_at hl 1 rfl) ?_
    refine lv_iload_n hx hb d_Fi_findTurnedOut_18 rfl (lv_at hl 3 rfl) ?_
    refine lv_iload_n hx hb d_Fi_findTurnedOut_19 rfl (lv_at hl 2 rfl) ?_
    refine fh_aload_n S d_Fi_findTurnedOut_20 rfl (lv_at hl 1 rfl) ?_
    refine lv_iload_n hx hb d_Fi_findTurnedOut_21 rfl (lv_at hl 3 rfl) ?_
    refine lv_iload_n hx hb d_Fi_findTurnedOut_22 rfl (lv_at hl 4 rfl) ?_
    obtain ⟨o3, e_o3, hf⟩ := fh_b hf
    obtain ⟨r4, e_r4, hf⟩ := fh_b hf
    refine fh_callV (As := [.int a2, .int a3]) (rest := [.int a1, .int a2, va_rf (some o)]) S fT_good hE hI e_o3 rfl (c_Fi_length e_r4) fy_Fi_length fst_Fi_length k_19 ⟨rfl, rfl⟩ ⟨Nat.le_of_ble_eq_true rfl, Nat.le_of_ble_eq_true rfl⟩ ⟨Nat.zero_le _, Nat.zero_le _⟩ rfl hl.1 rfl (Nat.le_of_ble_eq_true rfl) d_Fi_findTurnedOut_23 (fun H locs hI => ?_)
    refine lv_lload hx hb d_Fi_findTurnedOut_26 (lv_at hl 0 rfl) ?_
    obtain ⟨r5, e_r5, hf⟩ := fh_b hf
    refine fh_callSN (As := [.long r2.1]) (rest := [.long r4.1, .int a1, .int a2, va_rf (some o)]) S fT_good hE hI (c_FF_invert e_r5) fy_FF_invert fst_FF_invert kn_0 ⟨rfl, rfl⟩ ⟨Nat.le_of_ble_eq_true rfl, Nat.le_of_ble_eq_true rfl⟩ ⟨Nat.zero_le _, Nat.zero_le _⟩ rfl hl.1 rfl (Nat.le_of_ble_eq_true rfl) d_Fi_findTurnedOut_28 (fun H locs hI => ?_)
    refine lv_lmul hx hb d_Fi_findTurnedOut_31 ?_
    refine lv_ldc2 hx hb hown (hts _ k_9) d_Fi_findTurnedOut_32 ?_
    refine fh_lrem S d_Fi_findTurnedOut_35 (by decide) ?_
    obtain ⟨o6, e_o6, hf⟩ := fh_b hf
    obtain ⟨r7, e_r7, hf⟩ := fh_b hf
    refine fh_callV (As := [.int a2, .int a1, .long (fr_l (r4.1 * r5.1) 1000003)]) (rest := []) S fT_good hE hI e_o6 rfl (c_Fi_findAlong e_r7) fy_Fi_findAlong fst_Fi_findAlong k_20 ⟨rfl, rfl⟩ ⟨Nat.le_of_ble_eq_true rfl, Nat.le_of_ble_eq_true rfl⟩ ⟨Nat.zero_le _, Nat.zero_le _⟩ rfl hl.1 rfl (Nat.le_of_ble_eq_true rfl) d_Fi_findTurnedOut_36 (fun H locs hI => ?_)
    obtain ⟨hz, rfl⟩ := fz_s hf
    exact fh_iret S hr hk (fh_nb hz) hAe hI d_Fi_findTurnedOut_39
  · replace hf := fh_t c_12 hf
    refine lv_iconst (v := 0) hx hb d_Fi_findTurnedOut_15 (by decide) ?_
    obtain rfl := Option.some.inj hf
    exact fh_iret S hr hk (fh_nb (Or.inl rfl)) hAe hI d_Fi_findTurnedOut_16
