theorem d_IL_addRising_0 : decode c0_IL_addRising 0 = .ok (.iconst 0, 1) := by decide +kernel
theorem d_IL_addRising_1 : decode c0_IL_addRising 1 = .ok (.istore_n 2, 1) := by decide +kernel
theorem d_IL_addRising_2 : decode c0_IL_addRising 2 = .ok (.iload_n 2, 1) := by decide +kernel
theorem d_IL_addRising_3 : decode c0_IL_addRising 3 = .ok (.aload_n 0, 1) := by decide +kernel
theorem d_IL_addRising_4 : decode c0_IL_addRising 4 = .ok (.getfield 19, 3) := by decide +kernel
theorem d_IL_addRising_7 : decode c0_IL_addRising 7 = .ok (.if_icmp .ge 19, 3) := by decide +kernel
theorem d_IL_addRising_10 : decode c0_IL_addRising 10 = .ok (.aload_n 0, 1) := by decide +kernel
theorem d_IL_addRising_11 : decode c0_IL_addRising 11 = .ok (.getfield 13, 3) := by decide +kernel
theorem d_IL_addRising_14 : decode c0_IL_addRising 14 = .ok (.iload_n 2, 1) := by decide +kernel
theorem d_IL_addRising_15 : decode c0_IL_addRising 15 = .ok (.iaload, 1) := by decide +kernel
theorem d_IL_addRising_16 : decode c0_IL_addRising 16 = .ok (.iload_n 1, 1) := by decide +kernel
theorem d_IL_addRising_17 : decode c0_IL_addRising 17 = .ok (.if_icmp .ge 9, 3) := by decide +kernel
theorem d_IL_addRising_20 : decode c0_IL_addRising 20 = .ok (.iinc 2 1, 3) := by decide +kernel
theorem d_IL_addRising_23 : decode c0_IL_addRising 23 = .ok (.goto (-21), 3) := by decide +kernel
theorem d_IL_addRising_26 : decode c0_IL_addRising 26 = .ok (.iload_n 2, 1) := by decide +kernel
theorem d_IL_addRising_27 : decode c0_IL_addRising 27 = .ok (.aload_n 0, 1) := by decide +kernel
theorem d_IL_addRising_28 : decode c0_IL_addRising 28 = .ok (.getfield 19, 3) := by decide +kernel
theorem d_IL_addRising_31 : decode c0_IL_addRising 31 = .ok (.if_icmp .ge 13, 3) := by decide +kernel
theorem d_IL_addRising_34 : decode c0_IL_addRising 34 = .ok (.aload_n 0, 1) := by decide +kernel
theorem d_IL_addRising_35 : decode c0_IL_addRising 35 = .ok (.getfield 13, 3) := by decide +kernel
theorem d_IL_addRising_38 : decode c0_IL_addRising 38 = .ok (.iload_n 2, 1) := by decide +kernel
theorem d_IL_addRising_39 : decode c0_IL_addRising 39 = .ok (.iaload, 1) := by decide +kernel
theorem d_IL_addRising_40 : decode c0_IL_addRising 40 = .ok (.iload_n 1, 1) := by decide +kernel
theorem d_IL_addRising_41 : decode c0_IL_addRising 41 = .ok (.if_icmp .eq 15, 3) := by decide +kernel
theorem d_IL_addRising_44 : decode c0_IL_addRising 44 = .ok (.aload_n 0, 1) := by decide +kernel
theorem d_IL_addRising_45 : decode c0_IL_addRising 45 = .ok (.getfield 19, 3) := by decide +kernel
theorem d_IL_addRising_48 : decode c0_IL_addRising 48 = .ok (.aload_n 0, 1) := by decide +kernel
theorem d_IL_addRising_49 : decode c0_IL_addRising 49 = .ok (.getfield 13, 3) := by decide +kernel
theorem d_IL_addRising_52 : decode c0_IL_addRising 52 = .ok (.arraylength, 1) := by decide +kernel
theorem d_IL_addRising_53 : decode c0_IL_addRising 53 = .ok (.if_icmp .lt 4, 3) := by decide +kernel
theorem d_IL_addRising_56 : decode c0_IL_addRising 56 = .ok (.return_, 1) := by decide +kernel
theorem d_IL_addRising_57 : decode c0_IL_addRising 57 = .ok (.aload_n 0, 1) := by decide +kernel
theorem d_IL_addRising_58 : decode c0_IL_addRising 58 = .ok (.getfield 19, 3) := by decide +kernel
theorem d_IL_addRising_61 : decode c0_IL_addRising 61 = .ok (.istore_n 3, 1) := by decide +kernel
theorem d_IL_addRising_62 : decode c0_IL_addRising 62 = .ok (.iload_n 3, 1) := by decide +kernel
theorem d_IL_addRising_63 : decode c0_IL_addRising 63 = .ok (.iload_n 2, 1) := by decide +kernel
theorem d_IL_addRising_64 : decode c0_IL_addRising 64 = .ok (.if_icmp .le 23, 3) := by decide +kernel
theorem d_IL_addRising_67 : decode c0_IL_addRising 67 = .ok (.aload_n 0, 1) := by decide +kernel
theorem d_IL_addRising_68 : decode c0_IL_addRising 68 = .ok (.getfield 13, 3) := by decide +kernel
theorem d_IL_addRising_71 : decode c0_IL_addRising 71 = .ok (.iload_n 3, 1) := by decide +kernel
theorem d_IL_addRising_72 : decode c0_IL_addRising 72 = .ok (.aload_n 0, 1) := by decide +kernel
theorem d_IL_addRising_73 : decode c0_IL_addRising 73 = .ok (.getfield 13, 3) := by decide +kernel
theorem d_IL_addRising_76 : decode c0_IL_addRising 76 = .ok (.iload_n 3, 1) := by decide +kernel
theorem d_IL_addRising_77 : decode c0_IL_addRising 77 = .ok (.iconst 1, 1) := by decide +kernel
theorem d_IL_addRising_78 : decode c0_IL_addRising 78 = .ok (.isub, 1) := by decide +kernel
theorem d_IL_addRising_79 : decode c0_IL_addRising 79 = .ok (.iaload, 1) := by decide +kernel
theorem d_IL_addRising_80 : decode c0_IL_addRising 80 = .ok (.iastore, 1) := by decide +kernel
theorem d_IL_addRising_81 : decode c0_IL_addRising 81 = .ok (.iinc 3 (-1), 3) := by decide +kernel
theorem d_IL_addRising_84 : decode c0_IL_addRising 84 = .ok (.goto (-22), 3) := by decide +kernel
theorem d_IL_addRising_87 : decode c0_IL_addRising 87 = .ok (.aload_n 0, 1) := by decide +kernel
theorem d_IL_addRising_88 : decode c0_IL_addRising 88 = .ok (.getfield 13, 3) := by decide +kernel
theorem d_IL_addRising_91 : decode c0_IL_addRising 91 = .ok (.iload_n 2, 1) := by decide +kernel
theorem d_IL_addRising_92 : decode c0_IL_addRising 92 = .ok (.iload_n 1, 1) := by decide +kernel
theorem d_IL_addRising_93 : decode c0_IL_addRising 93 = .ok (.iastore, 1) := by decide +kernel
theorem d_IL_addRising_94 : decode c0_IL_addRising 94 = .ok (.aload_n 0, 1) := by decide +kernel
theorem d_IL_addRising_95 : decode c0_IL_addRising 95 = .ok (.dup, 1) := by decide +kernel
theorem d_IL_addRising_96 : decode c0_IL_addRising 96 = .ok (.getfield 19, 3) := by decide +kernel
theorem d_IL_addRising_99 : decode c0_IL_addRising 99 = .ok (.iconst 1, 1) := by decide +kernel
theorem d_IL_addRising_100 : decode c0_IL_addRising 100 = .ok (.iadd, 1) := by decide +kernel
theorem d_IL_addRising_101 : decode c0_IL_addRising 101 = .ok (.putfield 19, 3) := by decide +kernel
theorem d_IL_addRising_104 : decode c0_IL_addRising 104 = .ok (.return_, 1) := by decide +kernel
def b_IL_addRising_62 (K : Nat → ClassId) (N : Nat) (k62 : Int32 → Int32 → Int32 → fh_H → Option (fh_H)) (o : Nat) (v1 : Int32) (v2 : Int32) (v3 : Int32) (h : fh_H) : Option (fh_H) :=
  if v3 ≤ v2 then ((fg_a h (some o) 5 0).bind fun x1 => (fs_i (K 0) h x1 v2 v1).bind fun h2 => (fg_i h2 (some o) 5 1).bind fun x3 => (fp_v h2 (some o) 5 1 (.int (x3 + 1))).bind fun h4 => some h4) else ((fg_a h (some o) 5 0).bind fun x5 => (fg_a h (some o) 5 0).bind fun x6 => (fa_i (K 0) h x6 (v3 - 1)).bind fun x7 => (fs_i (K 0) h x5 v3 x7).bind fun h8 => (some (v3 + (-1))).bind fun x9 => k62 v1 v2 x9 h8)
def l_IL_addRising_62 (K : Nat → ClassId) (N : Nat) (o : Nat) : Nat → Int32 → Int32 → Int32 → fh_H → Option (fh_H)
  | 0, _, _, _, _ => none
  | n + 1, v1, v2, v3, h => b_IL_addRising_62 K N (l_IL_addRising_62 K N o n) o v1 v2 v3 h
def b_IL_addRising_44 (K : Nat → ClassId) (N : Nat) (o : Nat) (v1 : Int32) (v2 : Int32) (h : fh_H) : Option (fh_H) :=
  (fg_i h (some o) 5 1).bind fun x1 => (fg_a h (some o) 5 0).bind fun x2 => (fl_n (K 0) h x2).bind fun x3 => if x1 < x3 then ((fg_i h (some o) 5 1).bind fun x4 => l_IL_addRising_62 K N o N v1 v2 x4 h) else (some h)
def b_IL_addRising_26 (K : Nat → ClassId) (N : Nat) (o : Nat) (v1 : Int32) (v2 : Int32) (h : fh_H) : Option (fh_H) :=
  (fg_i h (some o) 5 1).bind fun x1 => if x1 ≤ v2 then (b_IL_addRising_44 K N o v1 v2 h) else ((fg_a h (some o) 5 0).bind fun x2 => (fa_i (K 0) h x2 v2).bind fun x3 => if x3 = v1 then (some h) else (b_IL_addRising_44 K N o v1 v2 h))
def b_IL_addRising_2 (K : Nat → ClassId) (N : Nat) (k2 : Int32 → Int32 → fh_H → Option (fh_H)) (o : Nat) (v1 : Int32) (v2 : Int32) (h : fh_H) : Option (fh_H) :=
  (fg_i h (some o) 5 1).bind fun x1 => if x1 ≤ v2 then (b_IL_addRising_26 K N o v1 v2 h) else ((fg_a h (some o) 5 0).bind fun x2 => (fa_i (K 0) h x2 v2).bind fun x3 => if v1 ≤ x3 then (b_IL_addRising_26 K N o v1 v2 h) else ((some (v2 + 1)).bind fun x4 => k2 v1 x4 h))
def l_IL_addRising_2 (K : Nat → ClassId) (N : Nat) (o : Nat) : Nat → Int32 → Int32 → fh_H → Option (fh_H)
  | 0, _, _, _ => none
  | n + 1, v1, v2, h => b_IL_addRising_2 K N (l_IL_addRising_2 K N o n) o v1 v2 h
def f_IL_addRising (K : Nat → ClassId) (N : Nat) (o : Nat) (a1 : Int32) (h0 : fh_H) : Option (fh_H) :=
  l_IL_addRising_2 K N o N a1 0 h0
set_option maxHeartbeats 4000000 in
set_option maxRecDepth 100000 in
theorem c_IL_addRising {l : Launch} {D : va_G} {K : Nat → ClassId} {t : Nat → Nat} {N : Nat} {o : Nat} {a1 : Int32} {h0 : fh_H} {res : fh_H} (hf : f_IL_addRising K N o a1 h0 = some res) : fC l D K t y_IL_addRising c0_IL_addRising 4 none rm_IL_addRising [.ref o, .int a1] h0 (none) res := by
  refine fh_body (by decide) (Nat.le_of_ble_eq_true rfl) ?_
  intro p e s m below meth c A ls S hr hk hnm hE hAe hI hl
  obtain ⟨hx, hb, hml, hown, hts⟩ := id S
  have hl : lv_has ls 4 [(0, va_rf (some o)), (1, .int a1)] := hl
  have L62 : ∀ (n62 : Nat) (v1 : Int32) (v2 : Int32) (v3 : Int32) (h : fh_H) (H : Heap) (locs : List Loc) (ls : Array Slot), lv_has ls 4 [(0, va_rf (some o)), (1, .int v1), (2, .int v2), (3, .int v3)] → fh_I D classes A s.heap h H locs → l_IL_addRising_62 K N o n62 v1 v2 v3 h = some res → W p l e rm_IL_addRising s m [.ref o, .int a1].toArray below meth c H locs 0 0 (MQ below (fh_Q D classes h0 s.heap.size (none) res) [.ref o, .int a1].toArray s 0 0 A) (F0 m 62 ls []) := by
    intro n62
    induction n62 with
    | zero =>
      intro v1 v2 v3 h H locs ls hl hI hf
      exact fh_no hf
    | succ n62 ih62 =>
      intro v1 v2 v3 h H locs ls hl hI hf
      have hf : b_IL_addRising_62 K N (l_IL_addRising_62 K N o n62) o v1 v2 v3 h = some res := hf
      unfold b_IL_addRising_62 at hf
      refine lv_iload_n hx hb d_IL_addRising_62 rfl (lv_at hl 3 rfl) ?_
      refine lv_iload_n hx hb d_IL_addRising_63 rfl (lv_at hl 2 rfl) ?_
      refine lv_icmp_le (tgt := 87) hx hb d_IL_addRising_64 (by decide) (fun c_64 => ?_) (fun c_64 => ?_)
      · replace hf := fh_t c_64 hf
        refine fh_aload_n S d_IL_addRising_87 rfl (lv_at hl 0 rfl) ?_
        obtain ⟨x1, e_x1, hf⟩ := fh_b hf
        refine fh_geta S hE.1 hI e_x1 (hc := rfl) (hin := in_5) (by decide) (hts _ k_100) d_IL_addRising_88 ?_
        refine lv_iload_n hx hb d_IL_addRising_91 rfl (lv_at hl 2 rfl) ?_
        refine lv_iload_n hx hb d_IL_addRising_92 rfl (lv_at hl 1 rfl) ?_
        obtain ⟨h2, e_h2, hf⟩ := fh_b hf
        refine fh_iast S hE.1 hI 0 rfl e_h2 d_IL_addRising_93 (fun H locs hI => ?_)
        refine fh_aload_n S d_IL_addRising_94 rfl (lv_at hl 0 rfl) ?_
        refine lv_dup hx hb d_IL_addRising_95 fh_rfcat ?_
        obtain ⟨x3, e_x3, hf⟩ := fh_b hf
        refine fh_geti S hE.1 hI e_x3 (hc := rfl) (hin := in_5) (by decide) (hts _ k_99) d_IL_addRising_96 ?_
        refine lv_iconst (v := 1) hx hb d_IL_addRising_99 (by decide) ?_
        refine lv_iadd hx hb d_IL_addRising_100 ?_
        obtain ⟨h4, e_h4, hf⟩ := fh_b hf
        refine fh_putv S hE.1 hI e_h4 (hc := rfl) (hin := in_5) tok_5 nok_5 (by decide) (hts _ k_99) rfl rfl rfl d_IL_addRising_101 (fun H locs hI => ?_)
        obtain rfl := Option.some.inj hf
        exact fh_vret S hr hk hAe hI d_IL_addRising_104
      · replace hf := fh_f c_64 hf
        refine fh_aload_n S d_IL_addRising_67 rfl (lv_at hl 0 rfl) ?_
        obtain ⟨x5, e_x5, hf⟩ := fh_b hf
        refine fh_geta S hE.1 hI e_x5 (hc := rfl) (hin := in_5) (by decide) (hts _ k_100) d_IL_addRising_68 ?_
        refine lv_iload_n hx hb d_IL_addRising_71 rfl (lv_at hl 3 rfl) ?_
        refine fh_aload_n S d_IL_addRising_72 rfl (lv_at hl 0 rfl) ?_
        obtain ⟨x6, e_x6, hf⟩ := fh_b hf
        refine fh_geta S hE.1 hI e_x6 (hc := rfl) (hin := in_5) (by decide) (hts _ k_100) d_IL_addRising_73 ?_
        refine lv_iload_n hx hb d_IL_addRising_76 rfl (lv_at hl 3 rfl) ?_
        refine lv_iconst (v := 1) hx hb d_IL_addRising_77 (by decide) ?_
        refine lv_isub hx hb d_IL_addRising_78 ?_
        obtain ⟨x7, e_x7, hf⟩ := fh_b hf
        refine fh_iald S hE.1 hI 0 rfl e_x7 d_IL_addRising_79 ?_
        obtain ⟨h8, e_h8, hf⟩ := fh_b hf
        refine fh_iast S hE.1 hI 0 rfl e_h8 d_IL_addRising_80 (fun H locs hI => ?_)
        obtain ⟨x9, e_x9, hf⟩ := fh_b hf
        refine lv_iinc (v := x9) (lv' := [(3, .int x9), (0, va_rf (some o)), (1, .int v1), (2, .int v2)]) hx hb d_IL_addRising_81 hl (k := 3) rfl (by rw [fh_qe e_x9]; rfl) (by decide) rfl (fun ls hl => ?_)
        refine lv_goto (tgt := 62) hx hb d_IL_addRising_84 (by decide) ?_
        exact ih62 v1 v2 x9 h8 _ _ _ (lv_sub hl [1, 2, 3, 0] rfl) hI hf
  have B44 : ∀ (v1 : Int32) (v2 : Int32) (h : fh_H) (H : Heap) (locs : List Loc) (ls : Array Slot), lv_has ls 4 [(0, va_rf (some o)), (1, .int v1), (2, .int v2)] → fh_I D classes A s.heap h H locs → b_IL_addRising_44 K N o v1 v2 h = some res → W p l e rm_IL_addRising s m [.ref o, .int a1].toArray below meth c H locs 0 0 (MQ below (fh_Q D classes h0 s.heap.size (none) res) [.ref o, .int a1].toArray s 0 0 A) (F0 m 44 ls []) := by
    intro v1 v2 h H locs ls hl hI hf
    unfold b_IL_addRising_44 at hf
    refine fh_aload_n S d_IL_addRising_44 rfl (lv_at hl 0 rfl) ?_
    obtain ⟨x1, e_x1, hf⟩ := fh_b hf
    refine fh_geti S hE.1 hI e_x1 (hc := rfl) (hin := in_5) (by decide) (hts _ k_99) d_IL_addRising_45 ?_
    refine fh_aload_n S d_IL_addRising_48 rfl (lv_at hl 0 rfl) ?_
    obtain ⟨x2, e_x2, hf⟩ := fh_b hf
    refine fh_geta S hE.1 hI e_x2 (hc := rfl) (hin := in_5) (by decide) (hts _ k_100) d_IL_addRising_49 ?_
    obtain ⟨x3, e_x3, hf⟩ := fh_b hf
    refine fh_alen S hE.1 hI 0 rfl e_x3 d_IL_addRising_52 ?_
    refine lv_icmp_lt (tgt := 57) hx hb d_IL_addRising_53 (by decide) (fun c_53 => ?_) (fun c_53 => ?_)
    · replace hf := fh_t c_53 hf
      refine fh_aload_n S d_IL_addRising_57 rfl (lv_at hl 0 rfl) ?_
      obtain ⟨x4, e_x4, hf⟩ := fh_b hf
      refine fh_geti S hE.1 hI e_x4 (hc := rfl) (hin := in_5) (by decide) (hts _ k_99) d_IL_addRising_58 ?_
      refine lv_istore_n (lv' := [(3, .int x4), (0, va_rf (some o)), (1, .int v1), (2, .int v2)]) hx hb d_IL_addRising_61 rfl hl (by decide) rfl (fun ls hl => ?_)
      exact L62 N v1 v2 x4 h _ _ _ (lv_sub hl [1, 2, 3, 0] rfl) hI hf
    · replace hf := fh_f c_53 hf
      obtain rfl := Option.some.inj hf
      exact fh_vret S hr hk hAe hI d_IL_addRising_56
  have B26 : ∀ (v1 : Int32) (v2 : Int32) (h : fh_H) (H : Heap) (locs : List Loc) (ls : Array Slot), lv_has ls 4 [(0, va_rf (some o)), (1, .int v1), (2, .int v2)] → fh_I D classes A s.heap h H locs → b_IL_addRising_26 K N o v1 v2 h = some res → W p l e rm_IL_addRising s m [.ref o, .int a1].toArray below meth c H locs 0 0 (MQ below (fh_Q D classes h0 s.heap.size (none) res) [.ref o, .int a1].toArray s 0 0 A) (F0 m 26 ls []) := by
    intro v1 v2 h H locs ls hl hI hf
    unfold b_IL_addRising_26 at hf
    refine lv_iload_n hx hb d_IL_addRising_26 rfl (lv_at hl 2 rfl) ?_
    refine fh_aload_n S d_IL_addRising_27 rfl (lv_at hl 0 rfl) ?_
    obtain ⟨x1, e_x1, hf⟩ := fh_b hf
    refine fh_geti S hE.1 hI e_x1 (hc := rfl) (hin := in_5) (by decide) (hts _ k_99) d_IL_addRising_28 ?_
    refine lv_icmp_ge (tgt := 44) hx hb d_IL_addRising_31 (by decide) (fun c_31 => ?_) (fun c_31 => ?_)
    · replace hf := fh_t c_31 hf
      exact B44 v1 v2 h _ _ _ (lv_sub hl [0, 1, 2] rfl) hI hf
    · replace hf := fh_f c_31 hf
      refine fh_aload_n S d_IL_addRising_34 rfl (lv_at hl 0 rfl) ?_
      obtain ⟨x2, e_x2, hf⟩ := fh_b hf
      refine fh_geta S hE.1 hI e_x2 (hc := rfl) (hin := in_5) (by decide) (hts _ k_100) d_IL_addRising_35 ?_
      refine lv_iload_n hx hb d_IL_addRising_38 rfl (lv_at hl 2 rfl) ?_
      obtain ⟨x3, e_x3, hf⟩ := fh_b hf
      refine fh_iald S hE.1 hI 0 rfl e_x3 d_IL_addRising_39 ?_
      refine lv_iload_n hx hb d_IL_addRising_40 rfl (lv_at hl 1 rfl) ?_
      refine lv_icmp_eq (tgt := 56) hx hb d_IL_addRising_41 (by decide) (fun c_41 => ?_) (fun c_41 => ?_)
      · replace hf := fh_t c_41 hf
        obtain rfl := Option.some.inj hf
        exact fh_vret S hr hk hAe hI d_IL_addRising_56
      · replace hf := fh_f c_41 hf
        exact B44 v1 v2 h _ _ _ (lv_sub hl [0, 1, 2] rfl) hI hf
  have L2 : ∀ (n2 : Nat) (v1 : Int32) (v2 : Int32) (h : fh_H) (H : Heap) (locs : List Loc) (ls : Array Slot), lv_has ls 4 [(0, va_rf (some o)), (1, .int v1), (2, .int v2)] → fh_I D classes A s.heap h H locs → l_IL_addRising_2 K N o n2 v1 v2 h = some res → W p l e rm_IL_addRising s m [.ref o, .int a1].toArray below meth c H locs 0 0 (MQ below (fh_Q D classes h0 s.heap.size (none) res) [.ref o, .int a1].toArray s 0 0 A) (F0 m 2 ls []) := by
    intro n2
    induction n2 with
    | zero =>
      intro v1 v2 h H locs ls hl hI hf
      exact fh_no hf
    | succ n2 ih2 =>
      intro v1 v2 h H locs ls hl hI hf
      have hf : b_IL_addRising_2 K N (l_IL_addRising_2 K N o n2) o v1 v2 h = some res := hf
      unfold b_IL_addRising_2 at hf
      refine lv_iload_n hx hb d_IL_addRising_2 rfl (lv_at hl 2 rfl) ?_
      refine fh_aload_n S d_IL_addRising_3 rfl (lv_at hl 0 rfl) ?_
      obtain ⟨x1, e_x1, hf⟩ := fh_b hf
      refine fh_geti S hE.1 hI e_x1 (hc := rfl) (hin := in_5) (by decide) (hts _ k_99) d_IL_addRising_4 ?_
      refine lv_icmp_ge (tgt := 26) hx hb d_IL_addRising_7 (by decide) (fun c_7 => ?_) (fun c_7 => ?_)
      · replace hf := fh_t c_7 hf
        exact B26 v1 v2 h _ _ _ (lv_sub hl [0, 1, 2] rfl) hI hf
      · replace hf := fh_f c_7 hf
        refine fh_aload_n S d_IL_addRising_10 rfl (lv_at hl 0 rfl) ?_
        obtain ⟨x2, e_x2, hf⟩ := fh_b hf
        refine fh_geta S hE.1 hI e_x2 (hc := rfl) (hin := in_5) (by decide) (hts _ k_100) d_IL_addRising_11 ?_
        refine lv_iload_n hx hb d_IL_addRising_14 rfl (lv_at hl 2 rfl) ?_
        obtain ⟨x3, e_x3, hf⟩ := fh_b hf
        refine fh_iald S hE.1 hI 0 rfl e_x3 d_IL_addRising_15 ?_
        refine lv_iload_n hx hb d_IL_addRising_16 rfl (lv_at hl 1 rfl) ?_
        refine lv_icmp_ge (tgt := 26) hx hb d_IL_addRising_17 (by decide) (fun c_17 => ?_) (fun c_17 => ?_)
        · replace hf := fh_t c_17 hf
          exact B26 v1 v2 h _ _ _ (lv_sub hl [0, 1, 2] rfl) hI hf
        · replace hf := fh_f c_17 hf
          obtain ⟨x4, e_x4, hf⟩ := fh_b hf
          refine lv_iinc (v := x4) (lv' := [(2, .int x4), (0, va_rf (some o)), (1, .int v1)]) hx hb d_IL_addRising_20 hl (k := 2) rfl (by rw [fh_qe e_x4]; rfl) (by decide) rfl (fun ls hl => ?_)
          refine lv_goto (tgt := 2) hx hb d_IL_addRising_23 (by decide) ?_
          exact ih2 v1 x4 h _ _ _ (lv_sub hl [1, 2, 0] rfl) hI hf
  unfold f_IL_addRising at hf
  refine lv_iconst (v := 0) hx hb d_IL_addRising_0 (by decide) ?_
  refine lv_istore_n (lv' := [(2, .int 0), (0, va_rf (some o)), (1, .int a1)]) hx hb d_IL_addRising_1 rfl hl (by decide) rfl (fun ls hl => ?_)
  exact L2 N a1 0 h0 _ _ _ (lv_sub hl [1, 2, 0] rfl) hI hf
theorem d_Fs_addRow_0 : decode c0_Fs_addRow 0 = .ok (.aload_n 0, 1) := by decide +kernel
theorem d_Fs_addRow_1 : decode c0_Fs_addRow 1 = .ok (.getfield 34, 3) := by decide +kernel
theorem d_Fs_addRow_4 : decode c0_Fs_addRow 4 = .ok (.iload_n 1, 1) := by decide +kernel
theorem d_Fs_addRow_5 : decode c0_Fs_addRow 5 = .ok (.iaload, 1) := by decide +kernel
theorem d_Fs_addRow_6 : decode c0_Fs_addRow 6 = .ok (.aload_n 0, 1) := by decide +kernel
theorem d_Fs_addRow_7 : decode c0_Fs_addRow 7 = .ok (.getfield 34, 3) := by decide +kernel
theorem d_Fs_addRow_10 : decode c0_Fs_addRow 10 = .ok (.iload_n 2, 1) := by decide +kernel
theorem d_Fs_addRow_11 : decode c0_Fs_addRow 11 = .ok (.iaload, 1) := by decide +kernel
theorem d_Fs_addRow_12 : decode c0_Fs_addRow 12 = .ok (.if_icmp .ne 4, 3) := by decide +kernel
theorem d_Fs_addRow_15 : decode c0_Fs_addRow 15 = .ok (.return_, 1) := by decide +kernel
theorem d_Fs_addRow_16 : decode c0_Fs_addRow 16 = .ok (.iconst 1, 1) := by decide +kernel
theorem d_Fs_addRow_17 : decode c0_Fs_addRow 17 = .ok (.iload_n 1, 1) := by decide +kernel
theorem d_Fs_addRow_18 : decode c0_Fs_addRow 18 = .ok (.ishl, 1) := by decide +kernel
theorem d_Fs_addRow_19 : decode c0_Fs_addRow 19 = .ok (.iconst 1, 1) := by decide +kernel
theorem d_Fs_addRow_20 : decode c0_Fs_addRow 20 = .ok (.iload_n 2, 1) := by decide +kernel
theorem d_Fs_addRow_21 : decode c0_Fs_addRow 21 = .ok (.ishl, 1) := by decide +kernel
theorem d_Fs_addRow_22 : decode c0_Fs_addRow 22 = .ok (.ior, 1) := by decide +kernel
theorem d_Fs_addRow_23 : decode c0_Fs_addRow 23 = .ok (.istore_n 3, 1) := by decide +kernel
theorem d_Fs_addRow_24 : decode c0_Fs_addRow 24 = .ok (.iconst 0, 1) := by decide +kernel
theorem d_Fs_addRow_25 : decode c0_Fs_addRow 25 = .ok (.istore 4, 2) := by decide +kernel
theorem d_Fs_addRow_27 : decode c0_Fs_addRow 27 = .ok (.iload 4, 2) := by decide +kernel
theorem d_Fs_addRow_29 : decode c0_Fs_addRow 29 = .ok (.aload_n 0, 1) := by decide +kernel
theorem d_Fs_addRow_30 : decode c0_Fs_addRow 30 = .ok (.getfield 48, 3) := by decide +kernel
theorem d_Fs_addRow_33 : decode c0_Fs_addRow 33 = .ok (.if_icmp .ge 34, 3) := by decide +kernel
theorem d_Fs_addRow_36 : decode c0_Fs_addRow 36 = .ok (.aload_n 0, 1) := by decide +kernel
theorem d_Fs_addRow_37 : decode c0_Fs_addRow 37 = .ok (.getfield 12, 3) := by decide +kernel
theorem d_Fs_addRow_40 : decode c0_Fs_addRow 40 = .ok (.iconst 1, 1) := by decide +kernel
theorem d_Fs_addRow_41 : decode c0_Fs_addRow 41 = .ok (.iload_n 1, 1) := by decide +kernel
theorem d_Fs_addRow_42 : decode c0_Fs_addRow 42 = .ok (.iload_n 2, 1) := by decide +kernel
theorem d_Fs_addRow_43 : decode c0_Fs_addRow 43 = .ok (.iload 4, 2) := by decide +kernel
theorem d_Fs_addRow_45 : decode c0_Fs_addRow 45 = .ok (.invokestatic 98, 3) := by decide +kernel
theorem d_Fs_addRow_48 : decode c0_Fs_addRow 48 = .ok (.invokevirtual 102, 3) := by decide +kernel
theorem d_Fs_addRow_51 : decode c0_Fs_addRow 51 = .ok (.ifCond .eq 10, 3) := by decide +kernel
theorem d_Fs_addRow_54 : decode c0_Fs_addRow 54 = .ok (.iload_n 3, 1) := by decide +kernel
theorem d_Fs_addRow_55 : decode c0_Fs_addRow 55 = .ok (.iconst 1, 1) := by decide +kernel
theorem d_Fs_addRow_56 : decode c0_Fs_addRow 56 = .ok (.iload 4, 2) := by decide +kernel
theorem d_Fs_addRow_58 : decode c0_Fs_addRow 58 = .ok (.ishl, 1) := by decide +kernel
theorem d_Fs_addRow_59 : decode c0_Fs_addRow 59 = .ok (.ior, 1) := by decide +kernel
theorem d_Fs_addRow_60 : decode c0_Fs_addRow 60 = .ok (.istore_n 3, 1) := by decide +kernel
theorem d_Fs_addRow_61 : decode c0_Fs_addRow 61 = .ok (.iinc 4 1, 3) := by decide +kernel
theorem d_Fs_addRow_64 : decode c0_Fs_addRow 64 = .ok (.goto (-37), 3) := by decide +kernel
theorem d_Fs_addRow_67 : decode c0_Fs_addRow 67 = .ok (.aload_n 0, 1) := by decide +kernel
theorem d_Fs_addRow_68 : decode c0_Fs_addRow 68 = .ok (.iload_n 3, 1) := by decide +kernel
theorem d_Fs_addRow_69 : decode c0_Fs_addRow 69 = .ok (.invokevirtual 58, 3) := by decide +kernel
theorem d_Fs_addRow_72 : decode c0_Fs_addRow 72 = .ok (.iconst 3, 1) := by decide +kernel
theorem d_Fs_addRow_73 : decode c0_Fs_addRow 73 = .ok (.if_icmp .lt 11, 3) := by decide +kernel
theorem d_Fs_addRow_76 : decode c0_Fs_addRow 76 = .ok (.aload_n 0, 1) := by decide +kernel
theorem d_Fs_addRow_77 : decode c0_Fs_addRow 77 = .ok (.getfield 27, 3) := by decide +kernel
theorem d_Fs_addRow_80 : decode c0_Fs_addRow 80 = .ok (.iload_n 3, 1) := by decide +kernel
theorem d_Fs_addRow_81 : decode c0_Fs_addRow 81 = .ok (.invokevirtual 106, 3) := by decide +kernel
theorem d_Fs_addRow_84 : decode c0_Fs_addRow 84 = .ok (.return_, 1) := by decide +kernel
def b_Fs_addRow_61 (K : Nat → ClassId) (N : Nat) (k27 : Int32 → Int32 → Int32 → Int32 → fh_H → Option (fh_H)) (o : Nat) (v1 : Int32) (v2 : Int32) (v3 : Int32) (v4 : Int32) (h : fh_H) : Option (fh_H) :=
  (some (v4 + 1)).bind fun x1 => k27 v1 v2 v3 x1 h
def b_Fs_addRow_27 (K : Nat → ClassId) (N : Nat) (k27 : Int32 → Int32 → Int32 → Int32 → fh_H → Option (fh_H)) (o : Nat) (v1 : Int32) (v2 : Int32) (v3 : Int32) (v4 : Int32) (h : fh_H) : Option (fh_H) :=
  (fg_i h (some o) 2 7).bind fun x1 => if x1 ≤ v4 then ((fg_o h (some o) 2).bind fun o2 => (f_Fs_placesOf K N o2 v3 h).bind fun r3 => if r3.1 < 3 then (some r3.2) else ((fg_a r3.2 (some o) 2 2).bind fun x4 => (fg_o r3.2 x4 5).bind fun o5 => (f_IL_addRising K N o5 v3 r3.2).bind fun r6 => some r6)) else ((fg_a h (some o) 2 0).bind fun x7 => (f_FF_pack K N v1 v2 v4 h).bind fun r8 => (fg_o r8.2 x7 3).bind fun o9 => (f_Dr_isShown K N o9 1 r8.1 r8.2).bind fun r10 => if r10.1 = 0 then (b_Fs_addRow_61 K N k27 o v1 v2 v3 v4 r10.2) else ((some (v3 ||| ((1 : Int32) <<< (v4 &&& 31)))).bind fun x11 => b_Fs_addRow_61 K N k27 o v1 v2 x11 v4 r10.2))
def l_Fs_addRow_27 (K : Nat → ClassId) (N : Nat) (o : Nat) : Nat → Int32 → Int32 → Int32 → Int32 → fh_H → Option (fh_H)
  | 0, _, _, _, _, _ => none
  | n + 1, v1, v2, v3, v4, h => b_Fs_addRow_27 K N (l_Fs_addRow_27 K N o n) o v1 v2 v3 v4 h
def f_Fs_addRow (K : Nat → ClassId) (N : Nat) (o : Nat) (a1 : Int32) (a2 : Int32) (h0 : fh_H) : Option (fh_H) :=
  (fg_a h0 (some o) 2 4).bind fun x1 => (fa_i (K 0) h0 x1 a1).bind fun x2 => (fg_a h0 (some o) 2 4).bind fun x3 => (fa_i (K 0) h0 x3 a2).bind fun x4 => if x2 = x4 then (some h0) else ((some (((1 : Int32) <<< (a1 &&& 31)) ||| ((1 : Int32) <<< (a2 &&& 31)))).bind fun x5 => l_Fs_addRow_27 K N o N a1 a2 x5 0 h0)
set_option maxHeartbeats 4000000 in
set_option maxRecDepth 100000 in
theorem c_Fs_addRow {l : Launch} {D : va_G} {K : Nat → ClassId} {t : Nat → Nat} {N : Nat} {o : Nat} {a1 : Int32} {a2 : Int32} {h0 : fh_H} {res : fh_H} (hf : f_Fs_addRow K N o a1 a2 h0 = some res) : fC l D K t y_Fs_addRow c0_Fs_addRow 5 none rm_Fs_addRow [.ref o, .int a1, .int a2] h0 (none) res := by
  refine fh_body (by decide) (Nat.le_of_ble_eq_true rfl) ?_
  intro p e s m below meth c A ls S hr hk hnm hE hAe hI hl
  obtain ⟨hx, hb, hml, hown, hts⟩ := id S
  have hl : lv_has ls 5 [(0, va_rf (some o)), (1, .int a1), (2, .int a2)] := hl
  have L27 : ∀ (n27 : Nat) (v1 : Int32) (v2 : Int32) (v3 : Int32) (v4 : Int32) (h : fh_H) (H : Heap) (locs : List Loc) (ls : Array Slot), lv_has ls 5 [(0, va_rf (some o)), (1, .int v1), (2, .int v2), (3, .int v3), (4, .int v4)] → fh_I D classes A s.heap h H locs → l_Fs_addRow_27 K N o n27 v1 v2 v3 v4 h = some res → W p l e rm_Fs_addRow s m [.ref o, .int a1, .int a2].toArray below meth c H locs 0 0 (MQ below (fh_Q D classes h0 s.heap.size (none) res) [.ref o, .int a1, .int a2].toArray s 0 0 A) (F0 m 27 ls []) := by
    intro n27
    induction n27 with
    | zero =>
      intro v1 v2 v3 v4 h H locs ls hl hI hf
      exact fh_no hf
    | succ n27 ih27 =>
      have B61 : ∀ (v1 : Int32) (v2 : Int32) (v3 : Int32) (v4 : Int32) (h : fh_H) (H : Heap) (locs : List Loc) (ls : Array Slot), lv_has ls 5 [(0, va_rf (some o)), (1, .int v1), (2, .int v2), (3, .int v3), (4, .int v4)] → fh_I D classes A s.heap h H locs → b_Fs_addRow_61 K N (l_Fs_addRow_27 K N o n27) o v1 v2 v3 v4 h = some res → W p l e rm_Fs_addRow s m [.ref o, .int a1, .int a2].toArray below meth c H locs 0 0 (MQ below (fh_Q D classes h0 s.heap.size (none) res) [.ref o, .int a1, .int a2].toArray s 0 0 A) (F0 m 61 ls []) := by
        intro v1 v2 v3 v4 h H locs ls hl hI hf
        unfold b_Fs_addRow_61 at hf
        obtain ⟨x1, e_x1, hf⟩ := fh_b hf
        refine lv_iinc (v := x1) (lv' := [(4, .int x1), (0, va_rf (some o)), (1, .int v1), (2, .int v2), (3, .int v3)]) hx hb d_Fs_addRow_61 hl (k := 4) rfl (by rw [fh_qe e_x1]; rfl) (by decide) rfl (fun ls hl => ?_)
        refine lv_goto (tgt := 27) hx hb d_Fs_addRow_64 (by decide) ?_
        exact ih27 v1 v2 v3 x1 h _ _ _ (lv_sub hl [1, 2, 3, 4, 0] rfl) hI hf
      intro v1 v2 v3 v4 h H locs ls hl hI hf
      have hf : b_Fs_addRow_27 K N (l_Fs_addRow_27 K N o n27) o v1 v2 v3 v4 h = some res := hf
      unfold b_Fs_addRow_27 at hf
      refine lv_iload hx hb d_Fs_addRow_27 (lv_at hl 4 rfl) ?_
      refine fh_aload_n S d_Fs_addRow_29 rfl (lv_at hl 0 rfl) ?_
      obtain ⟨x1, e_x1, hf⟩ := fh_b hf
      refine fh_geti S hE.1 hI e_x1 (hc := rfl) (hin := in_2) (by decide) (hts _ k_38) d_Fs_addRow_30 ?_
      refine lv_icmp_ge (tgt := 67) hx hb d_Fs_addRow_33 (by decide) (fun c_33 => ?_) (fun c_33 => ?_)
      · replace hf := fh_t c_33 hf
        refine fh_aload_n S d_Fs_addRow_67 rfl (lv_at hl 0 rfl) ?_
        refine lv_iload_n hx hb d_Fs_addRow_68 rfl (lv_at hl 3 rfl) ?_
        obtain ⟨o2, e_o2, hf⟩ := fh_b hf
        obtain ⟨r3, e_r3, hf⟩ := fh_b hf
        refine fh_callV (As := [.int v3]) (rest := []) S fT_good hE hI e_o2 rfl (c_Fs_placesOf e_r3) fy_Fs_placesOf fst_Fs_placesOf k_71 ⟨rfl, rfl⟩ ⟨Nat.le_of_ble_eq_true rfl, Nat.le_of_ble_eq_true rfl⟩ ⟨Nat.zero_le _, Nat.zero_le _⟩ rfl hl.1 rfl (Nat.le_of_ble_eq_true rfl) d_Fs_addRow_69 (fun H locs hI => ?_)
        refine lv_iconst (v := 3) hx hb d_Fs_addRow_72 (by decide) ?_
        refine lv_icmp_lt (tgt := 84) hx hb d_Fs_addRow_73 (by decide) (fun c_73 => ?_) (fun c_73 => ?_)
        · replace hf := fh_t c_73 hf
          obtain rfl := Option.some.inj hf
          exact fh_vret S hr hk hAe hI d_Fs_addRow_84
        · replace hf := fh_f c_73 hf
          refine fh_aload_n S d_Fs_addRow_76 rfl (lv_at hl 0 rfl) ?_
          obtain ⟨x4, e_x4, hf⟩ := fh_b hf
          refine fh_geta S hE.1 hI e_x4 (hc := rfl) (hin := in_2) (by decide) (hts _ k_127) d_Fs_addRow_77 ?_
          refine lv_iload_n hx hb d_Fs_addRow_80 rfl (lv_at hl 3 rfl) ?_
          obtain ⟨o5, e_o5, hf⟩ := fh_b hf
          obtain ⟨r6, e_r6, hf⟩ := fh_b hf
          refine fh_callV (As := [.int v3]) (rest := []) S fT_good hE hI e_o5 rfl (c_IL_addRising e_r6) fy_IL_addRising fst_IL_addRising k_128 ⟨rfl, rfl⟩ ⟨Nat.le_of_ble_eq_true rfl, Nat.le_of_ble_eq_true rfl⟩ ⟨Nat.zero_le _, Nat.zero_le _⟩ rfl hl.1 rfl (Nat.le_of_ble_eq_true rfl) d_Fs_addRow_81 (fun H locs hI => ?_)
          obtain rfl := Option.some.inj hf
          exact fh_vret S hr hk hAe hI d_Fs_addRow_84
      · replace hf := fh_f c_33 hf
        refine fh_aload_n S d_Fs_addRow_36 rfl (lv_at hl 0 rfl) ?_
        obtain ⟨x7, e_x7, hf⟩ := fh_b hf
        refine fh_geta S hE.1 hI e_x7 (hc := rfl) (hin := in_2) (by decide) (hts _ k_64) d_Fs_addRow_37 ?_
        refine lv_iconst (v := 1) hx hb d_Fs_addRow_40 (by decide) ?_
        refine lv_iload_n hx hb d_Fs_addRow_41 rfl (lv_at hl 1 rfl) ?_
        refine lv_iload_n hx hb d_Fs_addRow_42 rfl (lv_at hl 2 rfl) ?_
        refine lv_iload hx hb d_Fs_addRow_43 (lv_at hl 4 rfl) ?_
        obtain ⟨r8, e_r8, hf⟩ := fh_b hf
        refine fh_callSN (As := [.int v1, .int v2, .int v4]) (rest := [.int 1, va_rf x7]) S fT_good hE hI (c_FF_pack e_r8) fy_FF_pack fst_FF_pack kn_3 ⟨rfl, rfl⟩ ⟨Nat.le_of_ble_eq_true rfl, Nat.le_of_ble_eq_true rfl⟩ ⟨Nat.zero_le _, Nat.zero_le _⟩ rfl hl.1 rfl (Nat.le_trans (fh_cat _) (Nat.le_of_ble_eq_true rfl)) d_Fs_addRow_45 (fun H locs hI => ?_)
        obtain ⟨o9, e_o9, hf⟩ := fh_b hf
        obtain ⟨r10, e_r10, hf⟩ := fh_b hf
        refine fh_callV (As := [.int 1, .int r8.1]) (rest := []) S fT_good hE hI e_o9 rfl (c_Dr_isShown e_r10) fy_Dr_isShown fst_Dr_isShown k_65 ⟨rfl, rfl⟩ ⟨Nat.le_of_ble_eq_true rfl, Nat.le_of_ble_eq_true rfl⟩ ⟨Nat.zero_le _, Nat.zero_le _⟩ rfl hl.1 rfl (Nat.le_of_ble_eq_true rfl) d_Fs_addRow_48 (fun H locs hI => ?_)
        refine lv_if_eq (tgt := 61) hx hb d_Fs_addRow_51 (by decide) (fun c_51 => ?_) (fun c_51 => ?_)
        · replace hf := fh_t c_51 hf
          exact B61 v1 v2 v3 v4 r10.2 _ _ _ (lv_sub hl [0, 1, 2, 3, 4] rfl) hI hf
        · replace hf := fh_f c_51 hf
          refine lv_iload_n hx hb d_Fs_addRow_54 rfl (lv_at hl 3 rfl) ?_
          refine lv_iconst (v := 1) hx hb d_Fs_addRow_55 (by decide) ?_
          refine lv_iload hx hb d_Fs_addRow_56 (lv_at hl 4 rfl) ?_
          refine lv_ishl hx hb d_Fs_addRow_58 ?_
          refine lv_ior hx hb d_Fs_addRow_59 ?_
          obtain ⟨x11, e_x11, hf⟩ := fh_b hf
          refine fh_topi e_x11 ?_
          refine lv_istore_n (lv' := [(3, .int x11), (0, va_rf (some o)), (1, .int v1), (2, .int v2), (4, .int v4)]) hx hb d_Fs_addRow_60 rfl hl (by decide) rfl (fun ls hl => ?_)
          exact B61 v1 v2 x11 v4 r10.2 _ _ _ (lv_sub hl [1, 2, 3, 0, 4] rfl) hI hf
  unfold f_Fs_addRow at hf
  refine fh_aload_n S d_Fs_addRow_0 rfl (lv_at hl 0 rfl) ?_
  obtain ⟨x1, e_x1, hf⟩ := fh_b hf
  refine fh_geta S hE.1 hI e_x1 (hc := rfl) (hin := in_2) (by decide) (hts _ k_63) d_Fs_addRow_1 ?_
  refine lv_iload_n hx hb d_Fs_addRow_4 rfl (lv_at hl 1 rfl) ?_
  obtain ⟨x2, e_x2, hf⟩ := fh_b hf
  refine fh_iald S hE.1 hI 0 rfl e_x2 d_Fs_addRow_5 ?_
  refine fh_aload_n S d_Fs_addRow_6 rfl (lv_at hl 0 rfl) ?_
  obtain ⟨x3, e_x3, hf⟩ := fh_b hf
  refine fh_geta S hE.1 hI e_x3 (hc := rfl) (hin := in_2) (by decide) (hts _ k_63) d_Fs_addRow_7 ?_
  refine lv_iload_n hx hb d_Fs_addRow_10 rfl (lv_at hl 2 rfl) ?_
  obtain ⟨x4, e_x4, hf⟩ := fh_b hf
  refine fh_iald S hE.1 hI 0 rfl e_x4 d_Fs_addRow_11 ?_
  refine lv_icmp_ne (tgt := 16) hx hb d_Fs_addRow_12 (by decide) (fun c_12 => ?_) (fun c_12 => ?_)
  · replace hf := fh_f c_12 hf
    refine lv_iconst (v := 1) hx hb d_Fs_addRow_16 (by decide) ?_
    refine lv_iload_n hx hb d_Fs_addRow_17 rfl (lv_at hl 1 rfl) ?_
    refine lv_ishl hx hb d_Fs_addRow_18 ?_
    refine lv_iconst (v := 1) hx hb d_Fs_addRow_19 (by decide) ?_
    refine lv_iload_n hx hb d_Fs_addRow_20 rfl (lv_at hl 2 rfl) ?_
    refine lv_ishl hx hb d_Fs_addRow_21 ?_
    refine lv_ior hx hb d_Fs_addRow_22 ?_
    obtain ⟨x5, e_x5, hf⟩ := fh_b hf
    refine fh_topi e_x5 ?_
    refine lv_istore_n (lv' := [(3, .int x5), (0, va_rf (some o)), (1, .int a1), (2, .int a2)]) hx hb d_Fs_addRow_23 rfl hl (by decide) rfl (fun ls hl => ?_)
    refine lv_iconst (v := 0) hx hb d_Fs_addRow_24 (by decide) ?_
    refine lv_istore (lv' := [(4, .int 0), (3, .int x5), (0, va_rf (some o)), (1, .int a1), (2, .int a2)]) hx hb d_Fs_addRow_25 hl (by decide) rfl (fun ls hl => ?_)
    exact L27 N a1 a2 x5 0 h0 _ _ _ (lv_sub hl [2, 3, 4, 1, 0] rfl) hI hf
  · replace hf := fh_t c_12 hf
    obtain rfl := Option.some.inj hf
    exact fh_vret S hr hk hAe hI d_Fs_addRow_15
theorem d_Fs_allRows_0 : decode c0_Fs_allRows 0 = .ok (.aload_n 0, 1) := by decide +kernel
theorem d_Fs_allRows_1 : decode c0_Fs_allRows 1 = .ok (.bipush 10, 2) := by decide +kernel
theorem d_Fs_allRows_3 : decode c0_Fs_allRows 3 = .ok (.invokevirtual 62, 3) := by decide +kernel
theorem d_Fs_allRows_6 : decode c0_Fs_allRows 6 = .ok (.ifCond .eq 55, 3) := by decide +kernel
theorem d_Fs_allRows_9 : decode c0_Fs_allRows 9 = .ok (.aload_n 0, 1) := by decide +kernel
theorem d_Fs_allRows_10 : decode c0_Fs_allRows 10 = .ok (.invokevirtual 55, 3) := by decide +kernel
theorem d_Fs_allRows_13 : decode c0_Fs_allRows 13 = .ok (.aload_n 0, 1) := by decide +kernel
theorem d_Fs_allRows_14 : decode c0_Fs_allRows 14 = .ok (.getfield 27, 3) := by decide +kernel
theorem d_Fs_allRows_17 : decode c0_Fs_allRows 17 = .ok (.iconst 0, 1) := by decide +kernel
theorem d_Fs_allRows_18 : decode c0_Fs_allRows 18 = .ok (.putfield 66, 3) := by decide +kernel
theorem d_Fs_allRows_21 : decode c0_Fs_allRows 21 = .ok (.iconst 0, 1) := by decide +kernel
theorem d_Fs_allRows_22 : decode c0_Fs_allRows 22 = .ok (.istore_n 1, 1) := by decide +kernel
theorem d_Fs_allRows_23 : decode c0_Fs_allRows 23 = .ok (.iload_n 1, 1) := by decide +kernel
theorem d_Fs_allRows_24 : decode c0_Fs_allRows 24 = .ok (.aload_n 0, 1) := by decide +kernel
theorem d_Fs_allRows_25 : decode c0_Fs_allRows 25 = .ok (.getfield 48, 3) := by decide +kernel
theorem d_Fs_allRows_28 : decode c0_Fs_allRows 28 = .ok (.if_icmp .ge 33, 3) := by decide +kernel
theorem d_Fs_allRows_31 : decode c0_Fs_allRows 31 = .ok (.iload_n 1, 1) := by decide +kernel
theorem d_Fs_allRows_32 : decode c0_Fs_allRows 32 = .ok (.iconst 1, 1) := by decide +kernel
theorem d_Fs_allRows_33 : decode c0_Fs_allRows 33 = .ok (.iadd, 1) := by decide +kernel
theorem d_Fs_allRows_34 : decode c0_Fs_allRows 34 = .ok (.istore_n 2, 1) := by decide +kernel
theorem d_Fs_allRows_35 : decode c0_Fs_allRows 35 = .ok (.iload_n 2, 1) := by decide +kernel
theorem d_Fs_allRows_36 : decode c0_Fs_allRows 36 = .ok (.aload_n 0, 1) := by decide +kernel
theorem d_Fs_allRows_37 : decode c0_Fs_allRows 37 = .ok (.getfield 48, 3) := by decide +kernel
theorem d_Fs_allRows_40 : decode c0_Fs_allRows 40 = .ok (.if_icmp .ge 15, 3) := by decide +kernel
theorem d_Fs_allRows_43 : decode c0_Fs_allRows 43 = .ok (.aload_n 0, 1) := by decide +kernel
theorem d_Fs_allRows_44 : decode c0_Fs_allRows 44 = .ok (.iload_n 1, 1) := by decide +kernel
theorem d_Fs_allRows_45 : decode c0_Fs_allRows 45 = .ok (.iload_n 2, 1) := by decide +kernel
theorem d_Fs_allRows_46 : decode c0_Fs_allRows 46 = .ok (.invokevirtual 90, 3) := by decide +kernel
theorem d_Fs_allRows_49 : decode c0_Fs_allRows 49 = .ok (.iinc 2 1, 3) := by decide +kernel
theorem d_Fs_allRows_52 : decode c0_Fs_allRows 52 = .ok (.goto (-17), 3) := by decide +kernel
theorem d_Fs_allRows_55 : decode c0_Fs_allRows 55 = .ok (.iinc 1 1, 3) := by decide +kernel
theorem d_Fs_allRows_58 : decode c0_Fs_allRows 58 = .ok (.goto (-35), 3) := by decide +kernel
theorem d_Fs_allRows_61 : decode c0_Fs_allRows 61 = .ok (.aload_n 0, 1) := by decide +kernel
theorem d_Fs_allRows_62 : decode c0_Fs_allRows 62 = .ok (.getfield 27, 3) := by decide +kernel
theorem d_Fs_allRows_65 : decode c0_Fs_allRows 65 = .ok (.areturn, 1) := by decide +kernel
def b_Fs_allRows_35 (K : Nat → ClassId) (N : Nat) (k23 : Int32 → fh_H → Option (Option Nat × fh_H)) (k35 : Int32 → Int32 → fh_H → Option (Option Nat × fh_H)) (o : Nat) (v1 : Int32) (v2 : Int32) (h : fh_H) : Option (Option Nat × fh_H) :=
  (fg_i h (some o) 2 7).bind fun x1 => if x1 ≤ v2 then ((some (v1 + 1)).bind fun x2 => k23 x2 h) else ((fg_o h (some o) 2).bind fun o3 => (f_Fs_addRow K N o3 v1 v2 h).bind fun r4 => (some (v2 + 1)).bind fun x5 => k35 v1 x5 r4)
def l_Fs_allRows_35 (K : Nat → ClassId) (N : Nat) (k23 : Int32 → fh_H → Option (Option Nat × fh_H)) (o : Nat) : Nat → Int32 → Int32 → fh_H → Option (Option Nat × fh_H)
  | 0, _, _, _ => none
  | n + 1, v1, v2, h => b_Fs_allRows_35 K N k23 (l_Fs_allRows_35 K N k23 o n) o v1 v2 h
def b_Fs_allRows_23 (K : Nat → ClassId) (N : Nat) (k23 : Int32 → fh_H → Option (Option Nat × fh_H)) (o : Nat) (v1 : Int32) (h : fh_H) : Option (Option Nat × fh_H) :=
  (fg_i h (some o) 2 7).bind fun x1 => if x1 ≤ v1 then ((fg_a h (some o) 2 2).bind fun x2 => some (x2, h)) else ((some (v1 + 1)).bind fun x3 => l_Fs_allRows_35 K N k23 o N v1 x3 h)
def l_Fs_allRows_23 (K : Nat → ClassId) (N : Nat) (o : Nat) : Nat → Int32 → fh_H → Option (Option Nat × fh_H)
  | 0, _, _ => none
  | n + 1, v1, h => b_Fs_allRows_23 K N (l_Fs_allRows_23 K N o n) o v1 h
def f_Fs_allRows (K : Nat → ClassId) (N : Nat) (o : Nat)  (h0 : fh_H) : Option (Option Nat × fh_H) :=
  (fg_o h0 (some o) 2).bind fun o1 => (f_Fs_isNew K N o1 10 h0).bind fun r2 => if r2.1 = 0 then ((fg_a r2.2 (some o) 2 2).bind fun x3 => some (x3, r2.2)) else ((fg_o r2.2 (some o) 2).bind fun o4 => (f_Fs_findLeads K N o4 r2.2).bind fun r5 => (fg_a r5 (some o) 2 2).bind fun x6 => (fp_v r5 x6 5 1 (.int 0)).bind fun h7 => l_Fs_allRows_23 K N o N 0 h7)
set_option maxHeartbeats 4000000 in
set_option maxRecDepth 100000 in
theorem c_Fs_allRows {l : Launch} {D : va_G} {K : Nat → ClassId} {t : Nat → Nat} {N : Nat} {o : Nat}  {h0 : fh_H} {res : Option Nat × fh_H} (hf : f_Fs_allRows K N o  h0 = some res) : fC l D K t y_Fs_allRows c0_Fs_allRows 3 (some (.object "FactFinder$IntList")) rm_Fs_allRows [.ref o] h0 (some (va_rf res.1)) res.2 := by
  refine fh_body (by decide) (Nat.le_of_ble_eq_true rfl) ?_
  intro p e s m below meth c A ls S hr hk hnm hE hAe hI hl
  obtain ⟨hx, hb, hml, hown, hts⟩ := id S
  have hl : lv_has ls 3 [(0, va_rf (some o))] := hl
  have L23 : ∀ (n23 : Nat) (v1 : Int32) (h : fh_H) (H : Heap) (locs : List Loc) (ls : Array Slot), lv_has ls 3 [(0, va_rf (some o)), (1, .int v1)] → fh_I D classes A s.heap h H locs → l_Fs_allRows_23 K N o n23 v1 h = some res → W p l e rm_Fs_allRows s m [.ref o].toArray below meth c H locs 0 0 (MQ below (fh_Q D classes h0 s.heap.size (some (va_rf res.1)) res.2) [.ref o].toArray s 0 0 A) (F0 m 23 ls []) := by
    intro n23
    induction n23 with
    | zero =>
      intro v1 h H locs ls hl hI hf
      exact fh_no hf
    | succ n23 ih23 =>
      have L35 : ∀ (n35 : Nat) (v1 : Int32) (v2 : Int32) (h : fh_H) (H : Heap) (locs : List Loc) (ls : Array Slot), lv_has ls 3 [(0, va_rf (some o)), (1, .int v1), (2, .int v2)] → fh_I D classes A s.heap h H locs → l_Fs_allRows_35 K N (l_Fs_allRows_23 K N o n23) o n35 v1 v2 h = some res → W p l e rm_Fs_allRows s m [.ref o].toArray below meth c H locs 0 0 (MQ below (fh_Q D classes h0 s.heap.size (some (va_rf res.1)) res.2) [.ref o].toArray s 0 0 A) (F0 m 35 ls []) := by
        intro n35
        induction n35 with
        | zero =>
          intro v1 v2 h H locs ls hl hI hf
          exact fh_no hf
        | succ n35 ih35 =>
          intro v1 v2 h H locs ls hl hI hf
          have hf : b_Fs_allRows_35 K N (l_Fs_allRows_23 K N o n23) (l_Fs_allRows_35 K N (l_Fs_allRows_23 K N o n23) o n35) o v1 v2 h = some res := hf
          unfold b_Fs_allRows_35 at hf
          refine lv_iload_n hx hb d_Fs_allRows_35 rfl (lv_at hl 2 rfl) ?_
          refine fh_aload_n S d_Fs_allRows_36 rfl (lv_at hl 0 rfl) ?_
          obtain ⟨x1, e_x1, hf⟩ := fh_b hf
          refine fh_geti S hE.1 hI e_x1 (hc := rfl) (hin := in_2) (by decide) (hts _ k_38) d_Fs_allRows_37 ?_
          refine lv_icmp_ge (tgt := 55) hx hb d_Fs_allRows_40 (by decide) (fun c_40 => ?_) (fun c_40 => ?_)
          · replace hf := fh_t c_40 hf
            obtain ⟨x2, e_x2, hf⟩ := fh_b hf
            refine lv_iinc (v := x2) (lv' := [(1, .int x2), (0, va_rf (some o)), (2, .int v2)]) hx hb d_Fs_allRows_55 hl (k := 1) rfl (by rw [fh_qe e_x2]; rfl) (by decide) rfl (fun ls hl => ?_)
            refine lv_goto (tgt := 23) hx hb d_Fs_allRows_58 (by decide) ?_
            exact ih23 x2 h _ _ _ (lv_sub hl [1, 0] rfl) hI hf
          · replace hf := fh_f c_40 hf
            refine fh_aload_n S d_Fs_allRows_43 rfl (lv_at hl 0 rfl) ?_
            refine lv_iload_n hx hb d_Fs_allRows_44 rfl (lv_at hl 1 rfl) ?_
            refine lv_iload_n hx hb d_Fs_allRows_45 rfl (lv_at hl 2 rfl) ?_
            obtain ⟨o3, e_o3, hf⟩ := fh_b hf
            obtain ⟨r4, e_r4, hf⟩ := fh_b hf
            refine fh_callV (As := [.int v1, .int v2]) (rest := []) S fT_good hE hI e_o3 rfl (c_Fs_addRow e_r4) fy_Fs_addRow fst_Fs_addRow k_129 ⟨rfl, rfl⟩ ⟨Nat.le_of_ble_eq_true rfl, Nat.le_of_ble_eq_true rfl⟩ ⟨Nat.zero_le _, Nat.zero_le _⟩ rfl hl.1 rfl (Nat.le_of_ble_eq_true rfl) d_Fs_allRows_46 (fun H locs hI => ?_)
            obtain ⟨x5, e_x5, hf⟩ := fh_b hf
            refine lv_iinc (v := x5) (lv' := [(2, .int x5), (0, va_rf (some o)), (1, .int v1)]) hx hb d_Fs_allRows_49 hl (k := 2) rfl (by rw [fh_qe e_x5]; rfl) (by decide) rfl (fun ls hl => ?_)
            refine lv_goto (tgt := 35) hx hb d_Fs_allRows_52 (by decide) ?_
            exact ih35 v1 x5 r4 _ _ _ (lv_sub hl [1, 2, 0] rfl) hI hf
      intro v1 h H locs ls hl hI hf
      have hf : b_Fs_allRows_23 K N (l_Fs_allRows_23 K N o n23) o v1 h = some res := hf
      unfold b_Fs_allRows_23 at hf
      refine lv_iload_n hx hb d_Fs_allRows_23 rfl (lv_at hl 1 rfl) ?_
      refine fh_aload_n S d_Fs_allRows_24 rfl (lv_at hl 0 rfl) ?_
      obtain ⟨x1, e_x1, hf⟩ := fh_b hf
      refine fh_geti S hE.1 hI e_x1 (hc := rfl) (hin := in_2) (by decide) (hts _ k_38) d_Fs_allRows_25 ?_
      refine lv_icmp_ge (tgt := 61) hx hb d_Fs_allRows_28 (by decide) (fun c_28 => ?_) (fun c_28 => ?_)
      · replace hf := fh_t c_28 hf
        refine fh_aload_n S d_Fs_allRows_61 rfl (lv_at hl 0 rfl) ?_
        obtain ⟨x2, e_x2, hf⟩ := fh_b hf
        refine fh_geta S hE.1 hI e_x2 (hc := rfl) (hin := in_2) (by decide) (hts _ k_127) d_Fs_allRows_62 ?_
        obtain rfl := Option.some.inj hf
        exact fh_aret S hr (Or.inl ⟨_, rfl⟩) hk hAe hI d_Fs_allRows_65
      · replace hf := fh_f c_28 hf
        refine lv_iload_n hx hb d_Fs_allRows_31 rfl (lv_at hl 1 rfl) ?_
        refine lv_iconst (v := 1) hx hb d_Fs_allRows_32 (by decide) ?_
        refine lv_iadd hx hb d_Fs_allRows_33 ?_
        obtain ⟨x3, e_x3, hf⟩ := fh_b hf
        refine fh_topi e_x3 ?_
        refine lv_istore_n (lv' := [(2, .int x3), (0, va_rf (some o)), (1, .int v1)]) hx hb d_Fs_allRows_34 rfl hl (by decide) rfl (fun ls hl => ?_)
        exact L35 N v1 x3 h _ _ _ (lv_sub hl [1, 2, 0] rfl) hI hf
  unfold f_Fs_allRows at hf
  refine fh_aload_n S d_Fs_allRows_0 rfl (lv_at hl 0 rfl) ?_
  refine lv_bipush (v := 10) hx hb d_Fs_allRows_1 (by decide) ?_
  obtain ⟨o1, e_o1, hf⟩ := fh_b hf
  obtain ⟨r2, e_r2, hf⟩ := fh_b hf
  refine fh_callV (As := [.int 10]) (rest := []) S fT_good hE hI e_o1 rfl (c_Fs_isNew e_r2) fy_Fs_isNew fst_Fs_isNew k_62 ⟨rfl, rfl⟩ ⟨Nat.le_of_ble_eq_true rfl, Nat.le_of_ble_eq_true rfl⟩ ⟨Nat.zero_le _, Nat.zero_le _⟩ rfl hl.1 rfl (Nat.le_of_ble_eq_true rfl) d_Fs_allRows_3 (fun H locs hI => ?_)
  refine lv_if_eq (tgt := 61) hx hb d_Fs_allRows_6 (by decide) (fun c_6 => ?_) (fun c_6 => ?_)
  · replace hf := fh_t c_6 hf
    refine fh_aload_n S d_Fs_allRows_61 rfl (lv_at hl 0 rfl) ?_
    obtain ⟨x3, e_x3, hf⟩ := fh_b hf
    refine fh_geta S hE.1 hI e_x3 (hc := rfl) (hin := in_2) (by decide) (hts _ k_127) d_Fs_allRows_62 ?_
    obtain rfl := Option.some.inj hf
    exact fh_aret S hr (Or.inl ⟨_, rfl⟩) hk hAe hI d_Fs_allRows_65
  · replace hf := fh_f c_6 hf
    refine fh_aload_n S d_Fs_allRows_9 rfl (lv_at hl 0 rfl) ?_
    obtain ⟨o4, e_o4, hf⟩ := fh_b hf
    obtain ⟨r5, e_r5, hf⟩ := fh_b hf
    refine fh_callV (As := []) (rest := []) S fT_good hE hI e_o4 rfl (c_Fs_findLeads e_r5) fy_Fs_findLeads fst_Fs_findLeads k_70 ⟨rfl, rfl⟩ ⟨Nat.le_of_ble_eq_true rfl, Nat.le_of_ble_eq_true rfl⟩ ⟨Nat.zero_le _, Nat.zero_le _⟩ rfl hl.1 rfl (Nat.le_of_ble_eq_true rfl) d_Fs_allRows_10 (fun H locs hI => ?_)
    refine fh_aload_n S d_Fs_allRows_13 rfl (lv_at hl 0 rfl) ?_
    obtain ⟨x6, e_x6, hf⟩ := fh_b hf
    refine fh_geta S hE.1 hI e_x6 (hc := rfl) (hin := in_2) (by decide) (hts _ k_127) d_Fs_allRows_14 ?_
    refine lv_iconst (v := 0) hx hb d_Fs_allRows_17 (by decide) ?_
    obtain ⟨h7, e_h7, hf⟩ := fh_b hf
    refine fh_putv S hE.1 hI e_h7 (hc := rfl) (hin := in_5) tok_5 nok_5 (by decide) (hts _ k_106) rfl rfl rfl d_Fs_allRows_18 (fun H locs hI => ?_)
    refine lv_iconst (v := 0) hx hb d_Fs_allRows_21 (by decide) ?_
    refine lv_istore_n (lv' := [(1, .int 0), (0, va_rf (some o))]) hx hb d_Fs_allRows_22 rfl hl (by decide) rfl (fun ls hl => ?_)
    exact L23 N 0 h7 _ _ _ (lv_sub hl [1, 0] rfl) hI hf
theorem d_FF_row_0 : decode c0_FF_row 0 = .ok (.aload_n 0, 1) := by decide +kernel
theorem d_FF_row_1 : decode c0_FF_row 1 = .ok (.getfield 19, 3) := by decide +kernel
theorem d_FF_row_4 : decode c0_FF_row 4 = .ok (.invokevirtual 150, 3) := by decide +kernel
theorem d_FF_row_7 : decode c0_FF_row 7 = .ok (.astore_n 2, 1) := by decide +kernel
theorem d_FF_row_8 : decode c0_FF_row 8 = .ok (.aload_n 2, 1) := by decide +kernel
theorem d_FF_row_9 : decode c0_FF_row 9 = .ok (.iload_n 1, 1) := by decide +kernel
theorem d_FF_row_10 : decode c0_FF_row 10 = .ok (.invokevirtual 134, 3) := by decide +kernel
theorem d_FF_row_13 : decode c0_FF_row 13 = .ok (.ifCond .eq 12, 3) := by decide +kernel
theorem d_FF_row_16 : decode c0_FF_row 16 = .ok (.aload_n 2, 1) := by decide +kernel
theorem d_FF_row_17 : decode c0_FF_row 17 = .ok (.getfield 140, 3) := by decide +kernel
theorem d_FF_row_20 : decode c0_FF_row 20 = .ok (.iload_n 1, 1) := by decide +kernel
theorem d_FF_row_21 : decode c0_FF_row 21 = .ok (.iaload, 1) := by decide +kernel
theorem d_FF_row_22 : decode c0_FF_row 22 = .ok (.goto 4, 3) := by decide +kernel
theorem d_FF_row_25 : decode c0_FF_row 25 = .ok (.iconst (-1), 1) := by decide +kernel
theorem d_FF_row_26 : decode c0_FF_row 26 = .ok (.ireturn, 1) := by decide +kernel
def f_FF_row (K : Nat → ClassId) (N : Nat) (o : Nat) (a1 : Int32) (h0 : fh_H) : Option (Int32 × fh_H) :=
  (fg_a h0 (some o) 0 1).bind fun x1 => (fg_o h0 x1 2).bind fun o2 => (f_Fs_allRows K N o2 h0).bind fun r3 => (fg_o r3.2 r3.1 5).bind fun o4 => (f_IL_has K N o4 a1 r3.2).bind fun r5 => if r5.1 = 0 then (some ((-1), r5.2)) else ((fg_a r5.2 r3.1 5 0).bind fun x6 => (fa_i (K 0) r5.2 x6 a1).bind fun x7 => some (x7, r5.2))
set_option maxHeartbeats 4000000 in
set_option maxRecDepth 100000 in
theorem c_FF_row {l : Launch} {D : va_G} {K : Nat → ClassId} {t : Nat → Nat} {N : Nat} {o : Nat} {a1 : Int32} {h0 : fh_H} {res : Int32 × fh_H} (hf : f_FF_row K N o a1 h0 = some res) : fC l D K t y_FF_row c0_FF_row 3 (some .int) rm_FF_row [.ref o, .int a1] h0 (some (.int res.1)) res.2 := by
  refine fh_body (by decide) (Nat.le_of_ble_eq_true rfl) ?_
  intro p e s m below meth c A ls S hr hk hnm hE hAe hI hl
  obtain ⟨hx, hb, hml, hown, hts⟩ := id S
  have hl : lv_has ls 3 [(0, va_rf (some o)), (1, .int a1)] := hl
  unfold f_FF_row at hf
  refine fh_aload_n S d_FF_row_0 rfl (lv_at hl 0 rfl) ?_
  obtain ⟨x1, e_x1, hf⟩ := fh_b hf
  refine fh_geta S hE.1 hI e_x1 (hc := rfl) (hin := in_0) (by decide) (hts _ k_40) d_FF_row_1 ?_
  obtain ⟨o2, e_o2, hf⟩ := fh_b hf
  obtain ⟨r3, e_r3, hf⟩ := fh_b hf
  refine fh_callV (As := []) (rest := []) S fT_good hE hI e_o2 rfl (c_Fs_allRows e_r3) fy_Fs_allRows fst_Fs_allRows k_130 ⟨rfl, rfl⟩ ⟨Nat.le_of_ble_eq_true rfl, Nat.le_of_ble_eq_true rfl⟩ ⟨Nat.zero_le _, Nat.zero_le _⟩ rfl hl.1 rfl (Nat.le_of_ble_eq_true rfl) d_FF_row_4 (fun H locs hI => ?_)
  refine fh_astore_n (lv' := [(2, va_rf r3.1), (0, va_rf (some o)), (1, .int a1)]) S d_FF_row_7 rfl hl (by decide) rfl (fun ls hl => ?_)
  refine fh_aload_n S d_FF_row_8 rfl (lv_at hl 0 rfl) ?_
  refine lv_iload_n hx hb d_FF_row_9 rfl (lv_at hl 2 rfl) ?_
  obtain ⟨o4, e_o4, hf⟩ := fh_b hf
  obtain ⟨r5, e_r5, hf⟩ := fh_b hf
  refine fh_callV (As := [.int a1]) (rest := []) S fT_good hE hI e_o4 rfl (c_IL_has e_r5) fy_IL_has fst_IL_has k_122 ⟨rfl, rfl⟩ ⟨Nat.le_of_ble_eq_true rfl, Nat.le_of_ble_eq_true rfl⟩ ⟨Nat.zero_le _, Nat.zero_le _⟩ rfl hl.1 rfl (Nat.le_of_ble_eq_true rfl) d_FF_row_10 (fun H locs hI => ?_)
  refine lv_if_eq (tgt := 25) hx hb d_FF_row_13 (by decide) (fun c_13 => ?_) (fun c_13 => ?_)
  · replace hf := fh_t c_13 hf
    refine lv_iconst (v := (-1)) hx hb d_FF_row_25 (by decide) ?_
    obtain rfl := Option.some.inj hf
    exact fh_iret S hr hk rfl hAe hI d_FF_row_26
  · replace hf := fh_f c_13 hf
    refine fh_aload_n S d_FF_row_16 rfl (lv_at hl 0 rfl) ?_
    obtain ⟨x6, e_x6, hf⟩ := fh_b hf
    refine fh_geta S hE.1 hI e_x6 (hc := rfl) (hin := in_5) (by decide) (hts _ k_124) d_FF_row_17 ?_
    refine lv_iload_n hx hb d_FF_row_20 rfl (lv_at hl 2 rfl) ?_
    obtain ⟨x7, e_x7, hf⟩ := fh_b hf
    refine fh_iald S hE.1 hI 0 rfl e_x7 d_FF_row_21 ?_
    refine lv_goto (tgt := 26) hx hb d_FF_row_22 (by decide) ?_
    obtain rfl := Option.some.inj hf
    exact fh_iret S hr hk rfl hAe hI d_FF_row_26
theorem d_Fs_addRing_0 : decode c0_Fs_addRing 0 = .ok (.iconst 1, 1) := by decide +kernel
theorem d_Fs_addRing_1 : decode c0_Fs_addRing 1 = .ok (.iload_n 1, 1) := by decide +kernel
theorem d_Fs_addRing_2 : decode c0_Fs_addRing 2 = .ok (.ishl, 1) := by decide +kernel
theorem d_Fs_addRing_3 : decode c0_Fs_addRing 3 = .ok (.iconst 1, 1) := by decide +kernel
theorem d_Fs_addRing_4 : decode c0_Fs_addRing 4 = .ok (.iload_n 2, 1) := by decide +kernel
theorem d_Fs_addRing_5 : decode c0_Fs_addRing 5 = .ok (.ishl, 1) := by decide +kernel
theorem d_Fs_addRing_6 : decode c0_Fs_addRing 6 = .ok (.ior, 1) := by decide +kernel
theorem d_Fs_addRing_7 : decode c0_Fs_addRing 7 = .ok (.iconst 1, 1) := by decide +kernel
theorem d_Fs_addRing_8 : decode c0_Fs_addRing 8 = .ok (.iload_n 3, 1) := by decide +kernel
theorem d_Fs_addRing_9 : decode c0_Fs_addRing 9 = .ok (.ishl, 1) := by decide +kernel
theorem d_Fs_addRing_10 : decode c0_Fs_addRing 10 = .ok (.ior, 1) := by decide +kernel
theorem d_Fs_addRing_11 : decode c0_Fs_addRing 11 = .ok (.istore 4, 2) := by decide +kernel
theorem d_Fs_addRing_13 : decode c0_Fs_addRing 13 = .ok (.aload_n 0, 1) := by decide +kernel
theorem d_Fs_addRing_14 : decode c0_Fs_addRing 14 = .ok (.iload 4, 2) := by decide +kernel
theorem d_Fs_addRing_16 : decode c0_Fs_addRing 16 = .ok (.invokevirtual 58, 3) := by decide +kernel
theorem d_Fs_addRing_19 : decode c0_Fs_addRing 19 = .ok (.iconst 3, 1) := by decide +kernel
theorem d_Fs_addRing_20 : decode c0_Fs_addRing 20 = .ok (.if_icmp .lt 20, 3) := by decide +kernel
theorem d_Fs_addRing_23 : decode c0_Fs_addRing 23 = .ok (.aload_n 0, 1) := by decide +kernel
theorem d_Fs_addRing_24 : decode c0_Fs_addRing 24 = .ok (.getfield 12, 3) := by decide +kernel
theorem d_Fs_addRing_27 : decode c0_Fs_addRing 27 = .ok (.iconst 1, 1) := by decide +kernel
theorem d_Fs_addRing_28 : decode c0_Fs_addRing 28 = .ok (.iload_n 1, 1) := by decide +kernel
theorem d_Fs_addRing_29 : decode c0_Fs_addRing 29 = .ok (.iload_n 2, 1) := by decide +kernel
theorem d_Fs_addRing_30 : decode c0_Fs_addRing 30 = .ok (.iload_n 3, 1) := by decide +kernel
theorem d_Fs_addRing_31 : decode c0_Fs_addRing 31 = .ok (.invokestatic 98, 3) := by decide +kernel
theorem d_Fs_addRing_34 : decode c0_Fs_addRing 34 = .ok (.invokevirtual 102, 3) := by decide +kernel
theorem d_Fs_addRing_37 : decode c0_Fs_addRing 37 = .ok (.ifCond .eq 4, 3) := by decide +kernel
theorem d_Fs_addRing_40 : decode c0_Fs_addRing 40 = .ok (.return_, 1) := by decide +kernel
theorem d_Fs_addRing_41 : decode c0_Fs_addRing 41 = .ok (.iload 4, 2) := by decide +kernel
theorem d_Fs_addRing_43 : decode c0_Fs_addRing 43 = .ok (.istore 5, 2) := by decide +kernel
theorem d_Fs_addRing_45 : decode c0_Fs_addRing 45 = .ok (.iconst 0, 1) := by decide +kernel
theorem d_Fs_addRing_46 : decode c0_Fs_addRing 46 = .ok (.istore 6, 2) := by decide +kernel
theorem d_Fs_addRing_48 : decode c0_Fs_addRing 48 = .ok (.iload 6, 2) := by decide +kernel
theorem d_Fs_addRing_50 : decode c0_Fs_addRing 50 = .ok (.aload_n 0, 1) := by decide +kernel
theorem d_Fs_addRing_51 : decode c0_Fs_addRing 51 = .ok (.getfield 48, 3) := by decide +kernel
theorem d_Fs_addRing_54 : decode c0_Fs_addRing 54 = .ok (.if_icmp .ge 40, 3) := by decide +kernel
theorem d_Fs_addRing_57 : decode c0_Fs_addRing 57 = .ok (.aload_n 0, 1) := by decide +kernel
theorem d_Fs_addRing_58 : decode c0_Fs_addRing 58 = .ok (.getfield 12, 3) := by decide +kernel
theorem d_Fs_addRing_61 : decode c0_Fs_addRing 61 = .ok (.iconst 5, 1) := by decide +kernel
theorem d_Fs_addRing_62 : decode c0_Fs_addRing 62 = .ok (.iload_n 1, 1) := by decide +kernel
theorem d_Fs_addRing_63 : decode c0_Fs_addRing 63 = .ok (.iload_n 2, 1) := by decide +kernel
theorem d_Fs_addRing_64 : decode c0_Fs_addRing 64 = .ok (.iload_n 3, 1) := by decide +kernel
theorem d_Fs_addRing_65 : decode c0_Fs_addRing 65 = .ok (.invokestatic 98, 3) := by decide +kernel
theorem d_Fs_addRing_68 : decode c0_Fs_addRing 68 = .ok (.iload 6, 2) := by decide +kernel
theorem d_Fs_addRing_70 : decode c0_Fs_addRing 70 = .ok (.invokestatic 109, 3) := by decide +kernel
theorem d_Fs_addRing_73 : decode c0_Fs_addRing 73 = .ok (.invokevirtual 102, 3) := by decide +kernel
theorem d_Fs_addRing_76 : decode c0_Fs_addRing 76 = .ok (.ifCond .eq 12, 3) := by decide +kernel
theorem d_Fs_addRing_79 : decode c0_Fs_addRing 79 = .ok (.iload 5, 2) := by decide +kernel
theorem d_Fs_addRing_81 : decode c0_Fs_addRing 81 = .ok (.iconst 1, 1) := by decide +kernel
theorem d_Fs_addRing_82 : decode c0_Fs_addRing 82 = .ok (.iload 6, 2) := by decide +kernel
theorem d_Fs_addRing_84 : decode c0_Fs_addRing 84 = .ok (.ishl, 1) := by decide +kernel
theorem d_Fs_addRing_85 : decode c0_Fs_addRing 85 = .ok (.ior, 1) := by decide +kernel
theorem d_Fs_addRing_86 : decode c0_Fs_addRing 86 = .ok (.istore 5, 2) := by decide +kernel
theorem d_Fs_addRing_88 : decode c0_Fs_addRing 88 = .ok (.iinc 6 1, 3) := by decide +kernel
theorem d_Fs_addRing_91 : decode c0_Fs_addRing 91 = .ok (.goto (-43), 3) := by decide +kernel
theorem d_Fs_addRing_94 : decode c0_Fs_addRing 94 = .ok (.aload_n 0, 1) := by decide +kernel
theorem d_Fs_addRing_95 : decode c0_Fs_addRing 95 = .ok (.iload 5, 2) := by decide +kernel
theorem d_Fs_addRing_97 : decode c0_Fs_addRing 97 = .ok (.invokevirtual 58, 3) := by decide +kernel
theorem d_Fs_addRing_100 : decode c0_Fs_addRing 100 = .ok (.iconst 4, 1) := by decide +kernel
theorem d_Fs_addRing_101 : decode c0_Fs_addRing 101 = .ok (.if_icmp .lt 12, 3) := by decide +kernel
theorem d_Fs_addRing_104 : decode c0_Fs_addRing 104 = .ok (.aload_n 0, 1) := by decide +kernel
theorem d_Fs_addRing_105 : decode c0_Fs_addRing 105 = .ok (.getfield 31, 3) := by decide +kernel
theorem d_Fs_addRing_108 : decode c0_Fs_addRing 108 = .ok (.iload 5, 2) := by decide +kernel
theorem d_Fs_addRing_110 : decode c0_Fs_addRing 110 = .ok (.invokevirtual 106, 3) := by decide +kernel
theorem d_Fs_addRing_113 : decode c0_Fs_addRing 113 = .ok (.return_, 1) := by decide +kernel
def b_Fs_addRing_88 (K : Nat → ClassId) (N : Nat) (k48 : Int32 → Int32 → Int32 → Int32 → Int32 → fh_H → Option (fh_H)) (o : Nat) (v1 : Int32) (v2 : Int32) (v3 : Int32) (v5 : Int32) (v6 : Int32) (h : fh_H) : Option (fh_H) :=
  (some (v6 + 1)).bind fun x1 => k48 v1 v2 v3 v5 x1 h
def b_Fs_addRing_48 (K : Nat → ClassId) (N : Nat) (k48 : Int32 → Int32 → Int32 → Int32 → Int32 → fh_H → Option (fh_H)) (o : Nat) (v1 : Int32) (v2 : Int32) (v3 : Int32) (v5 : Int32) (v6 : Int32) (h : fh_H) : Option (fh_H) :=
  (fg_i h (some o) 2 7).bind fun x1 => if x1 ≤ v6 then ((fg_o h (some o) 2).bind fun o2 => (f_Fs_placesOf K N o2 v5 h).bind fun r3 => if r3.1 < 4 then (some r3.2) else ((fg_a r3.2 (some o) 2 3).bind fun x4 => (fg_o r3.2 x4 5).bind fun o5 => (f_IL_addRising K N o5 v5 r3.2).bind fun r6 => some r6)) else ((fg_a h (some o) 2 0).bind fun x7 => (f_FF_pack K N v1 v2 v3 h).bind fun r8 => (f_FF_join K N r8.1 v6 r8.2).bind fun r9 => (fg_o r9.2 x7 3).bind fun o10 => (f_Dr_isShown K N o10 5 r9.1 r9.2).bind fun r11 => if r11.1 = 0 then (b_Fs_addRing_88 K N k48 o v1 v2 v3 v5 v6 r11.2) else ((some (v5 ||| ((1 : Int32) <<< (v6 &&& 31)))).bind fun x12 => b_Fs_addRing_88 K N k48 o v1 v2 v3 x12 v6 r11.2))
def l_Fs_addRing_48 (K : Nat → ClassId) (N : Nat) (o : Nat) : Nat → Int32 → Int32 → Int32 → Int32 → Int32 → fh_H → Option (fh_H)
  | 0, _, _, _, _, _, _ => none
  | n + 1, v1, v2, v3, v5, v6, h => b_Fs_addRing_48 K N (l_Fs_addRing_48 K N o n) o v1 v2 v3 v5 v6 h
def f_Fs_addRing (K : Nat → ClassId) (N : Nat) (o : Nat) (a1 : Int32) (a2 : Int32) (a3 : Int32) (h0 : fh_H) : Option (fh_H) :=
  (some (((1 : Int32) <<< (a1 &&& 31)) ||| ((1 : Int32) <<< (a2 &&& 31)))).bind fun x1 => (some (x1 ||| ((1 : Int32) <<< (a3 &&& 31)))).bind fun x2 => (fg_o h0 (some o) 2).bind fun o3 => (f_Fs_placesOf K N o3 x2 h0).bind fun r4 => if r4.1 < 3 then (some r4.2) else ((fg_a r4.2 (some o) 2 0).bind fun x5 => (f_FF_pack K N a1 a2 a3 r4.2).bind fun r6 => (fg_o r6.2 x5 3).bind fun o7 => (f_Dr_isShown K N o7 1 r6.1 r6.2).bind fun r8 => if r8.1 = 0 then (l_Fs_addRing_48 K N o N a1 a2 a3 x2 0 r8.2) else (some r8.2))
set_option maxHeartbeats 4000000 in
set_option maxRecDepth 100000 in
theorem c_Fs_addRing {l : Launch} {D : va_G} {K : Nat → ClassId} {t : Nat → Nat} {N : Nat} {o : Nat} {a1 : Int32} {a2 : Int32} {a3 : Int32} {h0 : fh_H} {res : fh_H} (hf : f_Fs_addRing K N o a1 a2 a3 h0 = some res) : fC l D K t y_Fs_addRing c0_Fs_addRing 7 none rm_Fs_addRing [.ref o, .int a1, .int a2, .int a3] h0 (none) res := by
  refine fh_body (by decide) (Nat.le_of_ble_eq_true rfl) ?_
  intro p e s m below meth c A ls S hr hk hnm hE hAe hI hl
  obtain ⟨hx, hb, hml, hown, hts⟩ := id S
  have hl : lv_has ls 7 [(0, va_rf (some o)), (1, .int a1), (2, .int a2), (3, .int a3)] := hl
  have L48 : ∀ (n48 : Nat) (v1 : Int32) (v2 : Int32) (v3 : Int32) (v5 : Int32) (v6 : Int32) (h : fh_H) (H : Heap) (locs : List Loc) (ls : Array Slot), lv_has ls 7 [(0, va_rf (some o)), (1, .int v1), (2, .int v2), (3, .int v3), (5, .int v5), (6, .int v6)] → fh_I D classes A s.heap h H locs → l_Fs_addRing_48 K N o n48 v1 v2 v3 v5 v6 h = some res → W p l e rm_Fs_addRing s m [.ref o, .int a1, .int a2, .int a3].toArray below meth c H locs 0 0 (MQ below (fh_Q D classes h0 s.heap.size (none) res) [.ref o, .int a1, .int a2, .int a3].toArray s 0 0 A) (F0 m 48 ls []) := by
    intro n48
    induction n48 with
    | zero =>
      intro v1 v2 v3 v5 v6 h H locs ls hl hI hf
      exact fh_no hf
    | succ n48 ih48 =>
      have B88 : ∀ (v1 : Int32) (v2 : Int32) (v3 : Int32) (v5 : Int32) (v6 : Int32) (h : fh_H) (H : Heap) (locs : List Loc) (ls : Array Slot), lv_has ls 7 [(0, va_rf (some o)), (1, .int v1), (2, .int v2), (3, .int v3), (5, .int v5), (6, .int v6)] → fh_I D classes A s.heap h H locs → b_Fs_addRing_88 K N (l_Fs_addRing_48 K N o n48) o v1 v2 v3 v5 v6 h = some res → W p l e rm_Fs_addRing s m [.ref o, .int a1, .int a2, .int a3].toArray below meth c H locs 0 0 (MQ below (fh_Q D classes h0 s.heap.size (none) res) [.ref o, .int a1, .int a2, .int a3].toArray s 0 0 A) (F0 m 88 ls []) := by
        intro v1 v2 v3 v5 v6 h H locs ls hl hI hf
        unfold b_Fs_addRing_88 at hf
        obtain ⟨x1, e_x1, hf⟩ := fh_b hf
        refine lv_iinc (v := x1) (lv' := [(6, .int x1), (0, va_rf (some o)), (1, .int v1), (2, .int v2), (3, .int v3), (5, .int v5)]) hx hb d_Fs_addRing_88 hl (k := 5) rfl (by rw [fh_qe e_x1]; rfl) (by decide) rfl (fun ls hl => ?_)
        refine lv_goto (tgt := 48) hx hb d_Fs_addRing_91 (by decide) ?_
        exact ih48 v1 v2 v3 v5 x1 h _ _ _ (lv_sub hl [1, 2, 3, 4, 5, 0] rfl) hI hf
      intro v1 v2 v3 v5 v6 h H locs ls hl hI hf
      have hf : b_Fs_addRing_48 K N (l_Fs_addRing_48 K N o n48) o v1 v2 v3 v5 v6 h = some res := hf
      unfold b_Fs_addRing_48 at hf
      refine lv_iload hx hb d_Fs_addRing_48 (lv_at hl 5 rfl) ?_
      refine fh_aload_n S d_Fs_addRing_50 rfl (lv_at hl 0 rfl) ?_
      obtain ⟨x1, e_x1, hf⟩ := fh_b hf
      refine fh_geti S hE.1 hI e_x1 (hc := rfl) (hin := in_2) (by decide) (hts _ k_38) d_Fs_addRing_51 ?_
      refine lv_icmp_ge (tgt := 94) hx hb d_Fs_addRing_54 (by decide) (fun c_54 => ?_) (fun c_54 => ?_)
      · replace hf := fh_t c_54 hf
        refine fh_aload_n S d_Fs_addRing_94 rfl (lv_at hl 0 rfl) ?_
        refine lv_iload hx hb d_Fs_addRing_95 (lv_at hl 4 rfl) ?_
        obtain ⟨o2, e_o2, hf⟩ := fh_b hf
        obtain ⟨r3, e_r3, hf⟩ := fh_b hf
        refine fh_callV (As := [.int v5]) (rest := []) S fT_good hE hI e_o2 rfl (c_Fs_placesOf e_r3) fy_Fs_placesOf fst_Fs_placesOf k_71 ⟨rfl, rfl⟩ ⟨Nat.le_of_ble_eq_true rfl, Nat.le_of_ble_eq_true rfl⟩ ⟨Nat.zero_le _, Nat.zero_le _⟩ rfl hl.1 rfl (Nat.le_of_ble_eq_true rfl) d_Fs_addRing_97 (fun H locs hI => ?_)
        refine lv_iconst (v := 4) hx hb d_Fs_addRing_100 (by decide) ?_
        refine lv_icmp_lt (tgt := 113) hx hb d_Fs_addRing_101 (by decide) (fun c_101 => ?_) (fun c_101 => ?_)
        · replace hf := fh_t c_101 hf
          obtain rfl := Option.some.inj hf
          exact fh_vret S hr hk hAe hI d_Fs_addRing_113
        · replace hf := fh_f c_101 hf
          refine fh_aload_n S d_Fs_addRing_104 rfl (lv_at hl 0 rfl) ?_
          obtain ⟨x4, e_x4, hf⟩ := fh_b hf
          refine fh_geta S hE.1 hI e_x4 (hc := rfl) (hin := in_2) (by decide) (hts _ k_131) d_Fs_addRing_105 ?_
          refine lv_iload hx hb d_Fs_addRing_108 (lv_at hl 4 rfl) ?_
          obtain ⟨o5, e_o5, hf⟩ := fh_b hf
          obtain ⟨r6, e_r6, hf⟩ := fh_b hf
          refine fh_callV (As := [.int v5]) (rest := []) S fT_good hE hI e_o5 rfl (c_IL_addRising e_r6) fy_IL_addRising fst_IL_addRising k_128 ⟨rfl, rfl⟩ ⟨Nat.le_of_ble_eq_true rfl, Nat.le_of_ble_eq_true rfl⟩ ⟨Nat.zero_le _, Nat.zero_le _⟩ rfl hl.1 rfl (Nat.le_of_ble_eq_true rfl) d_Fs_addRing_110 (fun H locs hI => ?_)
          obtain rfl := Option.some.inj hf
          exact fh_vret S hr hk hAe hI d_Fs_addRing_113
      · replace hf := fh_f c_54 hf
        refine fh_aload_n S d_Fs_addRing_57 rfl (lv_at hl 0 rfl) ?_
        obtain ⟨x7, e_x7, hf⟩ := fh_b hf
        refine fh_geta S hE.1 hI e_x7 (hc := rfl) (hin := in_2) (by decide) (hts _ k_64) d_Fs_addRing_58 ?_
        refine lv_iconst (v := 5) hx hb d_Fs_addRing_61 (by decide) ?_
        refine lv_iload_n hx hb d_Fs_addRing_62 rfl (lv_at hl 1 rfl) ?_
        refine lv_iload_n hx hb d_Fs_addRing_63 rfl (lv_at hl 2 rfl) ?_
        refine lv_iload_n hx hb d_Fs_addRing_64 rfl (lv_at hl 3 rfl) ?_
        obtain ⟨r8, e_r8, hf⟩ := fh_b hf
        refine fh_callSN (As := [.int v1, .int v2, .int v3]) (rest := [.int 5, va_rf x7]) S fT_good hE hI (c_FF_pack e_r8) fy_FF_pack fst_FF_pack kn_3 ⟨rfl, rfl⟩ ⟨Nat.le_of_ble_eq_true rfl, Nat.le_of_ble_eq_true rfl⟩ ⟨Nat.zero_le _, Nat.zero_le _⟩ rfl hl.1 rfl (Nat.le_trans (fh_cat _) (Nat.le_of_ble_eq_true rfl)) d_Fs_addRing_65 (fun H locs hI => ?_)
        refine lv_iload hx hb d_Fs_addRing_68 (lv_at hl 5 rfl) ?_
        obtain ⟨r9, e_r9, hf⟩ := fh_b hf
        refine fh_callSN (As := [.int r8.1, .int v6]) (rest := [.int 5, va_rf x7]) S fT_good hE hI (c_FF_join e_r9) fy_FF_join fst_FF_join kn_8 ⟨rfl, rfl⟩ ⟨Nat.le_of_ble_eq_true rfl, Nat.le_of_ble_eq_true rfl⟩ ⟨Nat.zero_le _, Nat.zero_le _⟩ rfl hl.1 rfl (Nat.le_trans (fh_cat _) (Nat.le_of_ble_eq_true rfl)) d_Fs_addRing_70 (fun H locs hI => ?_)
        obtain ⟨o10, e_o10, hf⟩ := fh_b hf
        obtain ⟨r11, e_r11, hf⟩ := fh_b hf
        refine fh_callV (As := [.int 5, .int r9.1]) (rest := []) S fT_good hE hI e_o10 rfl (c_Dr_isShown e_r11) fy_Dr_isShown fst_Dr_isShown k_65 ⟨rfl, rfl⟩ ⟨Nat.le_of_ble_eq_true rfl, Nat.le_of_ble_eq_true rfl⟩ ⟨Nat.zero_le _, Nat.zero_le _⟩ rfl hl.1 rfl (Nat.le_of_ble_eq_true rfl) d_Fs_addRing_73 (fun H locs hI => ?_)
        refine lv_if_eq (tgt := 88) hx hb d_Fs_addRing_76 (by decide) (fun c_76 => ?_) (fun c_76 => ?_)
        · replace hf := fh_t c_76 hf
          exact B88 v1 v2 v3 v5 v6 r11.2 _ _ _ (lv_sub hl [0, 1, 2, 3, 4, 5] rfl) hI hf
        · replace hf := fh_f c_76 hf
          refine lv_iload hx hb d_Fs_addRing_79 (lv_at hl 4 rfl) ?_
          refine lv_iconst (v := 1) hx hb d_Fs_addRing_81 (by decide) ?_
          refine lv_iload hx hb d_Fs_addRing_82 (lv_at hl 5 rfl) ?_
          refine lv_ishl hx hb d_Fs_addRing_84 ?_
          refine lv_ior hx hb d_Fs_addRing_85 ?_
          obtain ⟨x12, e_x12, hf⟩ := fh_b hf
          refine fh_topi e_x12 ?_
          refine lv_istore (lv' := [(5, .int x12), (0, va_rf (some o)), (1, .int v1), (2, .int v2), (3, .int v3), (6, .int v6)]) hx hb d_Fs_addRing_86 hl (by decide) rfl (fun ls hl => ?_)
          exact B88 v1 v2 v3 x12 v6 r11.2 _ _ _ (lv_sub hl [1, 2, 3, 4, 0, 5] rfl) hI hf
  unfold f_Fs_addRing at hf
  refine lv_iconst (v := 1) hx hb d_Fs_addRing_0 (by decide) ?_
  refine lv_iload_n hx hb d_Fs_addRing_1 rfl (lv_at hl 1 rfl) ?_
  refine lv_ishl hx hb d_Fs_addRing_2 ?_
  refine lv_iconst (v := 1) hx hb d_Fs_addRing_3 (by decide) ?_
  refine lv_iload_n hx hb d_Fs_addRing_4 rfl (lv_at hl 2 rfl) ?_
  refine lv_ishl hx hb d_Fs_addRing_5 ?_
  refine lv_ior hx hb d_Fs_addRing_6 ?_
  obtain ⟨x1, e_x1, hf⟩ := fh_b hf
  refine fh_topi e_x1 ?_
  refine lv_iconst (v := 1) hx hb d_Fs_addRing_7 (by decide) ?_
  refine lv_iload_n hx hb d_Fs_addRing_8 rfl (lv_at hl 3 rfl) ?_
  refine lv_ishl hx hb d_Fs_addRing_9 ?_
  refine lv_ior hx hb d_Fs_addRing_10 ?_
  obtain ⟨x2, e_x2, hf⟩ := fh_b hf
  refine fh_topi e_x2 ?_
  refine lv_istore (lv' := [(4, .int x2), (0, va_rf (some o)), (1, .int a1), (2, .int a2), (3, .int a3)]) hx hb d_Fs_addRing_11 hl (by decide) rfl (fun ls hl => ?_)
  refine fh_aload_n S d_Fs_addRing_13 rfl (lv_at hl 1 rfl) ?_
  refine lv_iload hx hb d_Fs_addRing_14 (lv_at hl 0 rfl) ?_
  obtain ⟨o3, e_o3, hf⟩ := fh_b hf
  obtain ⟨r4, e_r4, hf⟩ := fh_b hf
  refine fh_callV (As := [.int x2]) (rest := []) S fT_good hE hI e_o3 rfl (c_Fs_placesOf e_r4) fy_Fs_placesOf fst_Fs_placesOf k_71 ⟨rfl, rfl⟩ ⟨Nat.le_of_ble_eq_true rfl, Nat.le_of_ble_eq_true rfl⟩ ⟨Nat.zero_le _, Nat.zero_le _⟩ rfl hl.1 rfl (Nat.le_of_ble_eq_true rfl) d_Fs_addRing_16 (fun H locs hI => ?_)
  refine lv_iconst (v := 3) hx hb d_Fs_addRing_19 (by decide) ?_
  refine lv_icmp_lt (tgt := 40) hx hb d_Fs_addRing_20 (by decide) (fun c_20 => ?_) (fun c_20 => ?_)
  · replace hf := fh_t c_20 hf
    obtain rfl := Option.some.inj hf
    exact fh_vret S hr hk hAe hI d_Fs_addRing_40
  · replace hf := fh_f c_20 hf
    refine fh_aload_n S d_Fs_addRing_23 rfl (lv_at hl 1 rfl) ?_
    obtain ⟨x5, e_x5, hf⟩ := fh_b hf
    refine fh_geta S hE.1 hI e_x5 (hc := rfl) (hin := in_2) (by decide) (hts _ k_64) d_Fs_addRing_24 ?_
    refine lv_iconst (v := 1) hx hb d_Fs_addRing_27 (by decide) ?_
    refine lv_iload_n hx hb d_Fs_addRing_28 rfl (lv_at hl 2 rfl) ?_
    refine lv_iload_n hx hb d_Fs_addRing_29 rfl (lv_at hl 3 rfl) ?_
    refine lv_iload_n hx hb d_Fs_addRing_30 rfl (lv_at hl 4 rfl) ?_
    obtain ⟨r6, e_r6, hf⟩ := fh_b hf
    refine fh_callSN (As := [.int a1, .int a2, .int a3]) (rest := [.int 1, va_rf x5]) S fT_good hE hI (c_FF_pack e_r6) fy_FF_pack fst_FF_pack kn_3 ⟨rfl, rfl⟩ ⟨Nat.le_of_ble_eq_true rfl, Nat.le_of_ble_eq_true rfl⟩ ⟨Nat.zero_le _, Nat.zero_le _⟩ rfl hl.1 rfl (Nat.le_trans (fh_cat _) (Nat.le_of_ble_eq_true rfl)) d_Fs_addRing_31 (fun H locs hI => ?_)
    obtain ⟨o7, e_o7, hf⟩ := fh_b hf
    obtain ⟨r8, e_r8, hf⟩ := fh_b hf
    refine fh_callV (As := [.int 1, .int r6.1]) (rest := []) S fT_good hE hI e_o7 rfl (c_Dr_isShown e_r8) fy_Dr_isShown fst_Dr_isShown k_65 ⟨rfl, rfl⟩ ⟨Nat.le_of_ble_eq_true rfl, Nat.le_of_ble_eq_true rfl⟩ ⟨Nat.zero_le _, Nat.zero_le _⟩ rfl hl.1 rfl (Nat.le_of_ble_eq_true rfl) d_Fs_addRing_34 (fun H locs hI => ?_)
    refine lv_if_eq (tgt := 41) hx hb d_Fs_addRing_37 (by decide) (fun c_37 => ?_) (fun c_37 => ?_)
    · replace hf := fh_t c_37 hf
      refine lv_iload hx hb d_Fs_addRing_41 (lv_at hl 0 rfl) ?_
      refine lv_istore (lv' := [(5, .int x2), (4, .int x2), (0, va_rf (some o)), (1, .int a1), (2, .int a2), (3, .int a3)]) hx hb d_Fs_addRing_43 hl (by decide) rfl (fun ls hl => ?_)
      refine lv_iconst (v := 0) hx hb d_Fs_addRing_45 (by decide) ?_
      refine lv_istore (lv' := [(6, .int 0), (5, .int x2), (4, .int x2), (0, va_rf (some o)), (1, .int a1), (2, .int a2), (3, .int a3)]) hx hb d_Fs_addRing_46 hl (by decide) rfl (fun ls hl => ?_)
      exact L48 N a1 a2 a3 x2 0 r8.2 _ _ _ (lv_sub hl [3, 4, 5, 6, 1, 0] rfl) hI hf
    · replace hf := fh_f c_37 hf
      obtain rfl := Option.some.inj hf
      exact fh_vret S hr hk hAe hI d_Fs_addRing_40
theorem d_Fs_allRings_0 : decode c0_Fs_allRings 0 = .ok (.aload_n 0, 1) := by decide +kernel
theorem d_Fs_allRings_1 : decode c0_Fs_allRings 1 = .ok (.bipush 11, 2) := by decide +kernel
theorem d_Fs_allRings_3 : decode c0_Fs_allRings 3 = .ok (.invokevirtual 62, 3) := by decide +kernel
theorem d_Fs_allRings_6 : decode c0_Fs_allRings 6 = .ok (.ifCond .eq 74, 3) := by decide +kernel
theorem d_Fs_allRings_9 : decode c0_Fs_allRings 9 = .ok (.aload_n 0, 1) := by decide +kernel
theorem d_Fs_allRings_10 : decode c0_Fs_allRings 10 = .ok (.invokevirtual 55, 3) := by decide +kernel
theorem d_Fs_allRings_13 : decode c0_Fs_allRings 13 = .ok (.aload_n 0, 1) := by decide +kernel
theorem d_Fs_allRings_14 : decode c0_Fs_allRings 14 = .ok (.getfield 31, 3) := by decide +kernel
theorem d_Fs_allRings_17 : decode c0_Fs_allRings 17 = .ok (.iconst 0, 1) := by decide +kernel
theorem d_Fs_allRings_18 : decode c0_Fs_allRings 18 = .ok (.putfield 66, 3) := by decide +kernel
theorem d_Fs_allRings_21 : decode c0_Fs_allRings 21 = .ok (.iconst 0, 1) := by decide +kernel
theorem d_Fs_allRings_22 : decode c0_Fs_allRings 22 = .ok (.istore_n 1, 1) := by decide +kernel
theorem d_Fs_allRings_23 : decode c0_Fs_allRings 23 = .ok (.iload_n 1, 1) := by decide +kernel
theorem d_Fs_allRings_24 : decode c0_Fs_allRings 24 = .ok (.aload_n 0, 1) := by decide +kernel
theorem d_Fs_allRings_25 : decode c0_Fs_allRings 25 = .ok (.getfield 48, 3) := by decide +kernel
theorem d_Fs_allRings_28 : decode c0_Fs_allRings 28 = .ok (.if_icmp .ge 52, 3) := by decide +kernel
theorem d_Fs_allRings_31 : decode c0_Fs_allRings 31 = .ok (.iload_n 1, 1) := by decide +kernel
theorem d_Fs_allRings_32 : decode c0_Fs_allRings 32 = .ok (.iconst 1, 1) := by decide +kernel
theorem d_Fs_allRings_33 : decode c0_Fs_allRings 33 = .ok (.iadd, 1) := by decide +kernel
theorem d_Fs_allRings_34 : decode c0_Fs_allRings 34 = .ok (.istore_n 2, 1) := by decide +kernel
theorem d_Fs_allRings_35 : decode c0_Fs_allRings 35 = .ok (.iload_n 2, 1) := by decide +kernel
theorem d_Fs_allRings_36 : decode c0_Fs_allRings 36 = .ok (.aload_n 0, 1) := by decide +kernel
theorem d_Fs_allRings_37 : decode c0_Fs_allRings 37 = .ok (.getfield 48, 3) := by decide +kernel
theorem d_Fs_allRings_40 : decode c0_Fs_allRings 40 = .ok (.if_icmp .ge 34, 3) := by decide +kernel
theorem d_Fs_allRings_43 : decode c0_Fs_allRings 43 = .ok (.iload_n 2, 1) := by decide +kernel
theorem d_Fs_allRings_44 : decode c0_Fs_allRings 44 = .ok (.iconst 1, 1) := by decide +kernel
theorem d_Fs_allRings_45 : decode c0_Fs_allRings 45 = .ok (.iadd, 1) := by decide +kernel
theorem d_Fs_allRings_46 : decode c0_Fs_allRings 46 = .ok (.istore_n 3, 1) := by decide +kernel
theorem d_Fs_allRings_47 : decode c0_Fs_allRings 47 = .ok (.iload_n 3, 1) := by decide +kernel
theorem d_Fs_allRings_48 : decode c0_Fs_allRings 48 = .ok (.aload_n 0, 1) := by decide +kernel
theorem d_Fs_allRings_49 : decode c0_Fs_allRings 49 = .ok (.getfield 48, 3) := by decide +kernel
theorem d_Fs_allRings_52 : decode c0_Fs_allRings 52 = .ok (.if_icmp .ge 16, 3) := by decide +kernel
theorem d_Fs_allRings_55 : decode c0_Fs_allRings 55 = .ok (.aload_n 0, 1) := by decide +kernel
theorem d_Fs_allRings_56 : decode c0_Fs_allRings 56 = .ok (.iload_n 1, 1) := by decide +kernel
theorem d_Fs_allRings_57 : decode c0_Fs_allRings 57 = .ok (.iload_n 2, 1) := by decide +kernel
theorem d_Fs_allRings_58 : decode c0_Fs_allRings 58 = .ok (.iload_n 3, 1) := by decide +kernel
theorem d_Fs_allRings_59 : decode c0_Fs_allRings 59 = .ok (.invokevirtual 94, 3) := by decide +kernel
theorem d_Fs_allRings_62 : decode c0_Fs_allRings 62 = .ok (.iinc 3 1, 3) := by decide +kernel
theorem d_Fs_allRings_65 : decode c0_Fs_allRings 65 = .ok (.goto (-18), 3) := by decide +kernel
theorem d_Fs_allRings_68 : decode c0_Fs_allRings 68 = .ok (.iinc 2 1, 3) := by decide +kernel
theorem d_Fs_allRings_71 : decode c0_Fs_allRings 71 = .ok (.goto (-36), 3) := by decide +kernel
theorem d_Fs_allRings_74 : decode c0_Fs_allRings 74 = .ok (.iinc 1 1, 3) := by decide +kernel
theorem d_Fs_allRings_77 : decode c0_Fs_allRings 77 = .ok (.goto (-54), 3) := by decide +kernel
theorem d_Fs_allRings_80 : decode c0_Fs_allRings 80 = .ok (.aload_n 0, 1) := by decide +kernel
theorem d_Fs_allRings_81 : decode c0_Fs_allRings 81 = .ok (.getfield 31, 3) := by decide +kernel
theorem d_Fs_allRings_84 : decode c0_Fs_allRings 84 = .ok (.areturn, 1) := by decide +kernel
def b_Fs_allRings_47 (K : Nat → ClassId) (N : Nat) (k23 : Int32 → fh_H → Option (Option Nat × fh_H)) (k35 : Int32 → Int32 → fh_H → Option (Option Nat × fh_H)) (k47 : Int32 → Int32 → Int32 → fh_H → Option (Option Nat × fh_H)) (o : Nat) (v1 : Int32) (v2 : Int32) (v3 : Int32) (h : fh_H) : Option (Option Nat × fh_H) :=
  (fg_i h (some o) 2 7).bind fun x1 => if x1 ≤ v3 then ((some (v2 + 1)).bind fun x2 => k35 v1 x2 h) else ((fg_o h (some o) 2).bind fun o3 => (f_Fs_addRing K N o3 v1 v2 v3 h).bind fun r4 => (some (v3 + 1)).bind fun x5 => k47 v1 v2 x5 r4)
def l_Fs_allRings_47 (K : Nat → ClassId) (N : Nat) (k23 : Int32 → fh_H → Option (Option Nat × fh_H)) (k35 : Int32 → Int32 → fh_H → Option (Option Nat × fh_H)) (o : Nat) : Nat → Int32 → Int32 → Int32 → fh_H → Option (Option Nat × fh_H)
  | 0, _, _, _, _ => none
  | n + 1, v1, v2, v3, h => b_Fs_allRings_47 K N k23 k35 (l_Fs_allRings_47 K N k23 k35 o n) o v1 v2 v3 h
def b_Fs_allRings_35 (K : Nat → ClassId) (N : Nat) (k23 : Int32 → fh_H → Option (Option Nat × fh_H)) (k35 : Int32 → Int32 → fh_H → Option (Option Nat × fh_H)) (o : Nat) (v1 : Int32) (v2 : Int32) (h : fh_H) : Option (Option Nat × fh_H) :=
  (fg_i h (some o) 2 7).bind fun x1 => if x1 ≤ v2 then ((some (v1 + 1)).bind fun x2 => k23 x2 h) else ((some (v2 + 1)).bind fun x3 => l_Fs_allRings_47 K N k23 k35 o N v1 v2 x3 h)
def l_Fs_allRings_35 (K : Nat → ClassId) (N : Nat) (k23 : Int32 → fh_H → Option (Option Nat × fh_H)) (o : Nat) : Nat → Int32 → Int32 → fh_H → Option (Option Nat × fh_H)
  | 0, _, _, _ => none
  | n + 1, v1, v2, h => b_Fs_allRings_35 K N k23 (l_Fs_allRings_35 K N k23 o n) o v1 v2 h
def b_Fs_allRings_23 (K : Nat → ClassId) (N : Nat) (k23 : Int32 → fh_H → Option (Option Nat × fh_H)) (o : Nat) (v1 : Int32) (h : fh_H) : Option (Option Nat × fh_H) :=
  (fg_i h (some o) 2 7).bind fun x1 => if x1 ≤ v1 then ((fg_a h (some o) 2 3).bind fun x2 => some (x2, h)) else ((some (v1 + 1)).bind fun x3 => l_Fs_allRings_35 K N k23 o N v1 x3 h)
def l_Fs_allRings_23 (K : Nat → ClassId) (N : Nat) (o : Nat) : Nat → Int32 → fh_H → Option (Option Nat × fh_H)
  | 0, _, _ => none
  | n + 1, v1, h => b_Fs_allRings_23 K N (l_Fs_allRings_23 K N o n) o v1 h
def f_Fs_allRings (K : Nat → ClassId) (N : Nat) (o : Nat)  (h0 : fh_H) : Option (Option Nat × fh_H) :=
  (fg_o h0 (some o) 2).bind fun o1 => (f_Fs_isNew K N o1 11 h0).bind fun r2 => if r2.1 = 0 then ((fg_a r2.2 (some o) 2 3).bind fun x3 => some (x3, r2.2)) else ((fg_o r2.2 (some o) 2).bind fun o4 => (f_Fs_findLeads K N o4 r2.2).bind fun r5 => (fg_a r5 (some o) 2 3).bind fun x6 => (fp_v r5 x6 5 1 (.int 0)).bind fun h7 => l_Fs_allRings_23 K N o N 0 h7)
set_option maxHeartbeats 4000000 in
set_option maxRecDepth 100000 in
theorem c_Fs_allRings {l : Launch} {D : va_G} {K : Nat → ClassId} {t : Nat → Nat} {N : Nat} {o : Nat}  {h0 : fh_H} {res : Option Nat × fh_H} (hf : f_Fs_allRings K N o  h0 = some res) : fC l D K t y_Fs_allRings c0_Fs_allRings 4 (some (.object "FactFinder$IntList")) rm_Fs_allRings [.ref o] h0 (some (va_rf res.1)) res.2 := by
  refine fh_body (by decide) (Nat.le_of_ble_eq_true rfl) ?_
  intro p e s m below meth c A ls S hr hk hnm hE hAe hI hl
  obtain ⟨hx, hb, hml, hown, hts⟩ := id S
  have hl : lv_has ls 4 [(0, va_rf (some o))] := hl
  have L23 : ∀ (n23 : Nat) (v1 : Int32) (h : fh_H) (H : Heap) (locs : List Loc) (ls : Array Slot), lv_has ls 4 [(0, va_rf (some o)), (1, .int v1)] → fh_I D classes A s.heap h H locs → l_Fs_allRings_23 K N o n23 v1 h = some res → W p l e rm_Fs_allRings s m [.ref o].toArray below meth c H locs 0 0 (MQ below (fh_Q D classes h0 s.heap.size (some (va_rf res.1)) res.2) [.ref o].toArray s 0 0 A) (F0 m 23 ls []) := by
    intro n23
    induction n23 with
    | zero =>
      intro v1 h H locs ls hl hI hf
      exact fh_no hf
    | succ n23 ih23 =>
      have L35 : ∀ (n35 : Nat) (v1 : Int32) (v2 : Int32) (h : fh_H) (H : Heap) (locs : List Loc) (ls : Array Slot), lv_has ls 4 [(0, va_rf (some o)), (1, .int v1), (2, .int v2)] → fh_I D classes A s.heap h H locs → l_Fs_allRings_35 K N (l_Fs_allRings_23 K N o n23) o n35 v1 v2 h = some res → W p l e rm_Fs_allRings s m [.ref o].toArray below meth c H locs 0 0 (MQ below (fh_Q D classes h0 s.heap.size (some (va_rf res.1)) res.2) [.ref o].toArray s 0 0 A) (F0 m 35 ls []) := by
        intro n35
        induction n35 with
        | zero =>
          intro v1 v2 h H locs ls hl hI hf
          exact fh_no hf
        | succ n35 ih35 =>
          have L47 : ∀ (n47 : Nat) (v1 : Int32) (v2 : Int32) (v3 : Int32) (h : fh_H) (H : Heap) (locs : List Loc) (ls : Array Slot), lv_has ls 4 [(0, va_rf (some o)), (1, .int v1), (2, .int v2), (3, .int v3)] → fh_I D classes A s.heap h H locs → l_Fs_allRings_47 K N (l_Fs_allRings_23 K N o n23) (l_Fs_allRings_35 K N (l_Fs_allRings_23 K N o n23) o n35) o n47 v1 v2 v3 h = some res → W p l e rm_Fs_allRings s m [.ref o].toArray below meth c H locs 0 0 (MQ below (fh_Q D classes h0 s.heap.size (some (va_rf res.1)) res.2) [.ref o].toArray s 0 0 A) (F0 m 47 ls []) := by
            intro n47
            induction n47 with
            | zero =>
              intro v1 v2 v3 h H locs ls hl hI hf
              exact fh_no hf
            | succ n47 ih47 =>
              intro v1 v2 v3 h H locs ls hl hI hf
              have hf : b_Fs_allRings_47 K N (l_Fs_allRings_23 K N o n23) (l_Fs_allRings_35 K N (l_Fs_allRings_23 K N o n23) o n35) (l_Fs_allRings_47 K N (l_Fs_allRings_23 K N o n23) (l_Fs_allRings_35 K N (l_Fs_allRings_23 K N o n23) o n35) o n47) o v1 v2 v3 h = some res := hf
              unfold b_Fs_allRings_47 at hf
              refine lv_iload_n hx hb d_Fs_allRings_47 rfl (lv_at hl 3 rfl) ?_
              refine fh_aload_n S d_Fs_allRings_48 rfl (lv_at hl 0 rfl) ?_
              obtain ⟨x1, e_x1, hf⟩ := fh_b hf
              refine fh_geti S hE.1 hI e_x1 (hc := rfl) (hin := in_2) (by decide) (hts _ k_38) d_Fs_allRings_49 ?_
              refine lv_icmp_ge (tgt := 68) hx hb d_Fs_allRings_52 (by decide) (fun c_52 => ?_) (fun c_52 => ?_)
              · replace hf := fh_t c_52 hf
                obtain ⟨x2, e_x2, hf⟩ := fh_b hf
                refine lv_iinc (v := x2) (lv' := [(2, .int x2), (0, va_rf (some o)), (1, .int v1), (3, .int v3)]) hx hb d_Fs_allRings_68 hl (k := 2) rfl (by rw [fh_qe e_x2]; rfl) (by decide) rfl (fun ls hl => ?_)
                refine lv_goto (tgt := 35) hx hb d_Fs_allRings_71 (by decide) ?_
                exact ih35 v1 x2 h _ _ _ (lv_sub hl [1, 2, 0] rfl) hI hf
              · replace hf := fh_f c_52 hf
                refine fh_aload_n S d_Fs_allRings_55 rfl (lv_at hl 0 rfl) ?_
                refine lv_iload_n hx hb d_Fs_allRings_56 rfl (lv_at hl 1 rfl) ?_
                refine lv_iload_n hx hb d_Fs_allRings_57 rfl (lv_at hl 2 rfl) ?_
                refine lv_iload_n hx hb d_Fs_allRings_58 rfl (lv_at hl 3 rfl) ?_
                obtain ⟨o3, e_o3, hf⟩ := fh_b hf
                obtain ⟨r4, e_r4, hf⟩ := fh_b hf
                refine fh_callV (As := [.int v1, .int v2, .int v3]) (rest := []) S fT_good hE hI e_o3 rfl (c_Fs_addRing e_r4) fy_Fs_addRing fst_Fs_addRing k_132 ⟨rfl, rfl⟩ ⟨Nat.le_of_ble_eq_true rfl, Nat.le_of_ble_eq_true rfl⟩ ⟨Nat.zero_le _, Nat.zero_le _⟩ rfl hl.1 rfl (Nat.le_of_ble_eq_true rfl) d_Fs_allRings_59 (fun H locs hI => ?_)
                obtain ⟨x5, e_x5, hf⟩ := fh_b hf
                refine lv_iinc (v := x5) (lv' := [(3, .int x5), (0, va_rf (some o)), (1, .int v1), (2, .int v2)]) hx hb d_Fs_allRings_62 hl (k := 3) rfl (by rw [fh_qe e_x5]; rfl) (by decide) rfl (fun ls hl => ?_)
                refine lv_goto (tgt := 47) hx hb d_Fs_allRings_65 (by decide) ?_
                exact ih47 v1 v2 x5 r4 _ _ _ (lv_sub hl [1, 2, 3, 0] rfl) hI hf
          intro v1 v2 h H locs ls hl hI hf
          have hf : b_Fs_allRings_35 K N (l_Fs_allRings_23 K N o n23) (l_Fs_allRings_35 K N (l_Fs_allRings_23 K N o n23) o n35) o v1 v2 h = some res := hf
          unfold b_Fs_allRings_35 at hf
          refine lv_iload_n hx hb d_Fs_allRings_35 rfl (lv_at hl 2 rfl) ?_
          refine fh_aload_n S d_Fs_allRings_36 rfl (lv_at hl 0 rfl) ?_
          obtain ⟨x1, e_x1, hf⟩ := fh_b hf
          refine fh_geti S hE.1 hI e_x1 (hc := rfl) (hin := in_2) (by decide) (hts _ k_38) d_Fs_allRings_37 ?_
          refine lv_icmp_ge (tgt := 74) hx hb d_Fs_allRings_40 (by decide) (fun c_40 => ?_) (fun c_40 => ?_)
          · replace hf := fh_t c_40 hf
            obtain ⟨x2, e_x2, hf⟩ := fh_b hf
            refine lv_iinc (v := x2) (lv' := [(1, .int x2), (0, va_rf (some o)), (2, .int v2)]) hx hb d_Fs_allRings_74 hl (k := 1) rfl (by rw [fh_qe e_x2]; rfl) (by decide) rfl (fun ls hl => ?_)
            refine lv_goto (tgt := 23) hx hb d_Fs_allRings_77 (by decide) ?_
            exact ih23 x2 h _ _ _ (lv_sub hl [1, 0] rfl) hI hf
          · replace hf := fh_f c_40 hf
            refine lv_iload_n hx hb d_Fs_allRings_43 rfl (lv_at hl 2 rfl) ?_
            refine lv_iconst (v := 1) hx hb d_Fs_allRings_44 (by decide) ?_
            refine lv_iadd hx hb d_Fs_allRings_45 ?_
            obtain ⟨x3, e_x3, hf⟩ := fh_b hf
            refine fh_topi e_x3 ?_
            refine lv_istore_n (lv' := [(3, .int x3), (0, va_rf (some o)), (1, .int v1), (2, .int v2)]) hx hb d_Fs_allRings_46 rfl hl (by decide) rfl (fun ls hl => ?_)
            exact L47 N v1 v2 x3 h _ _ _ (lv_sub hl [1, 2, 3, 0] rfl) hI hf
      intro v1 h H locs ls hl hI hf
      have hf : b_Fs_allRings_23 K N (l_Fs_allRings_23 K N o n23) o v1 h = some res := hf
      unfold b_Fs_allRings_23 at hf
      refine lv_iload_n hx hb d_Fs_allRings_23 rfl (lv_at hl 1 rfl) ?_
      refine fh_aload_n S d_Fs_allRings_24 rfl (lv_at hl 0 rfl) ?_
      obtain ⟨x1, e_x1, hf⟩ := fh_b hf
      refine fh_geti S hE.1 hI e_x1 (hc := rfl) (hin := in_2) (by decide) (hts _ k_38) d_Fs_allRings_25 ?_
      refine lv_icmp_ge (tgt := 80) hx hb d_Fs_allRings_28 (by decide) (fun c_28 => ?_) (fun c_28 => ?_)
      · replace hf := fh_t c_28 hf
        refine fh_aload_n S d_Fs_allRings_80 rfl (lv_at hl 0 rfl) ?_
        obtain ⟨x2, e_x2, hf⟩ := fh_b hf
        refine fh_geta S hE.1 hI e_x2 (hc := rfl) (hin := in_2) (by decide) (hts _ k_131) d_Fs_allRings_81 ?_
        obtain rfl := Option.some.inj hf
        exact fh_aret S hr (Or.inl ⟨_, rfl⟩) hk hAe hI d_Fs_allRings_84
      · replace hf := fh_f c_28 hf
        refine lv_iload_n hx hb d_Fs_allRings_31 rfl (lv_at hl 1 rfl) ?_
        refine lv_iconst (v := 1) hx hb d_Fs_allRings_32 (by decide) ?_
        refine lv_iadd hx hb d_Fs_allRings_33 ?_
        obtain ⟨x3, e_x3, hf⟩ := fh_b hf
        refine fh_topi e_x3 ?_
        refine lv_istore_n (lv' := [(2, .int x3), (0, va_rf (some o)), (1, .int v1)]) hx hb d_Fs_allRings_34 rfl hl (by decide) rfl (fun ls hl => ?_)
        exact L35 N v1 x3 h _ _ _ (lv_sub hl [1, 2, 0] rfl) hI hf
  unfold f_Fs_allRings at hf
  refine fh_aload_n S d_Fs_allRings_0 rfl (lv_at hl 0 rfl) ?_
  refine lv_bipush (v := 11) hx hb d_Fs_allRings_1 (by decide) ?_
  obtain ⟨o1, e_o1, hf⟩ := fh_b hf
  obtain ⟨r2, e_r2, hf⟩ := fh_b hf
  refine fh_callV (As := [.int 11]) (rest := []) S fT_good hE hI e_o1 rfl (c_Fs_isNew e_r2) fy_Fs_isNew fst_Fs_isNew k_62 ⟨rfl, rfl⟩ ⟨Nat.le_of_ble_eq_true rfl, Nat.le_of_ble_eq_true rfl⟩ ⟨Nat.zero_le _, Nat.zero_le _⟩ rfl hl.1 rfl (Nat.le_of_ble_eq_true rfl) d_Fs_allRings_3 (fun H locs hI => ?_)
  refine lv_if_eq (tgt := 80) hx hb d_Fs_allRings_6 (by decide) (fun c_6 => ?_) (fun c_6 => ?_)
  · replace hf := fh_t c_6 hf
    refine fh_aload_n S d_Fs_allRings_80 rfl (lv_at hl 0 rfl) ?_
    obtain ⟨x3, e_x3, hf⟩ := fh_b hf
    refine fh_geta S hE.1 hI e_x3 (hc := rfl) (hin := in_2) (by decide) (hts _ k_131) d_Fs_allRings_81 ?_
    obtain rfl := Option.some.inj hf
    exact fh_aret S hr (Or.inl ⟨_, rfl⟩) hk hAe hI d_Fs_allRings_84
  · replace hf := fh_f c_6 hf
    refine fh_aload_n S d_Fs_allRings_9 rfl (lv_at hl 0 rfl) ?_
    obtain ⟨o4, e_o4, hf⟩ := fh_b hf
    obtain ⟨r5, e_r5, hf⟩ := fh_b hf
    refine fh_callV (As := []) (rest := []) S fT_good hE hI e_o4 rfl (c_Fs_findLeads e_r5) fy_Fs_findLeads fst_Fs_findLeads k_70 ⟨rfl, rfl⟩ ⟨Nat.le_of_ble_eq_true rfl, Nat.le_of_ble_eq_true rfl⟩ ⟨Nat.zero_le _, Nat.zero_le _⟩ rfl hl.1 rfl (Nat.le_of_ble_eq_true rfl) d_Fs_allRings_10 (fun H locs hI => ?_)
    refine fh_aload_n S d_Fs_allRings_13 rfl (lv_at hl 0 rfl) ?_
    obtain ⟨x6, e_x6, hf⟩ := fh_b hf
    refine fh_geta S hE.1 hI e_x6 (hc := rfl) (hin := in_2) (by decide) (hts _ k_131) d_Fs_allRings_14 ?_
    refine lv_iconst (v := 0) hx hb d_Fs_allRings_17 (by decide) ?_
    obtain ⟨h7, e_h7, hf⟩ := fh_b hf
    refine fh_putv S hE.1 hI e_h7 (hc := rfl) (hin := in_5) tok_5 nok_5 (by decide) (hts _ k_106) rfl rfl rfl d_Fs_allRings_18 (fun H locs hI => ?_)
    refine lv_iconst (v := 0) hx hb d_Fs_allRings_21 (by decide) ?_
    refine lv_istore_n (lv' := [(1, .int 0), (0, va_rf (some o))]) hx hb d_Fs_allRings_22 rfl hl (by decide) rfl (fun ls hl => ?_)
    exact L23 N 0 h7 _ _ _ (lv_sub hl [1, 0] rfl) hI hf
theorem d_FF_ring_0 : decode c0_FF_ring 0 = .ok (.aload_n 0, 1) := by decide +kernel
theorem d_FF_ring_1 : decode c0_FF_ring 1 = .ok (.getfield 19, 3) := by decide +kernel
theorem d_FF_ring_4 : decode c0_FF_ring 4 = .ok (.invokevirtual 154, 3) := by decide +kernel
theorem d_FF_ring_7 : decode c0_FF_ring 7 = .ok (.astore_n 2, 1) := by decide +kernel
theorem d_FF_ring_8 : decode c0_FF_ring 8 = .ok (.aload_n 2, 1) := by decide +kernel
theorem d_FF_ring_9 : decode c0_FF_ring 9 = .ok (.iload_n 1, 1) := by decide +kernel
theorem d_FF_ring_10 : decode c0_FF_ring 10 = .ok (.invokevirtual 134, 3) := by decide +kernel
theorem d_FF_ring_13 : decode c0_FF_ring 13 = .ok (.ifCond .eq 12, 3) := by decide +kernel
theorem d_FF_ring_16 : decode c0_FF_ring 16 = .ok (.aload_n 2, 1) := by decide +kernel
theorem d_FF_ring_17 : decode c0_FF_ring 17 = .ok (.getfield 140, 3) := by decide +kernel
theorem d_FF_ring_20 : decode c0_FF_ring 20 = .ok (.iload_n 1, 1) := by decide +kernel
theorem d_FF_ring_21 : decode c0_FF_ring 21 = .ok (.iaload, 1) := by decide +kernel
theorem d_FF_ring_22 : decode c0_FF_ring 22 = .ok (.goto 4, 3) := by decide +kernel
theorem d_FF_ring_25 : decode c0_FF_ring 25 = .ok (.iconst (-1), 1) := by decide +kernel
theorem d_FF_ring_26 : decode c0_FF_ring 26 = .ok (.ireturn, 1) := by decide +kernel
def f_FF_ring (K : Nat → ClassId) (N : Nat) (o : Nat) (a1 : Int32) (h0 : fh_H) : Option (Int32 × fh_H) :=
  (fg_a h0 (some o) 0 1).bind fun x1 => (fg_o h0 x1 2).bind fun o2 => (f_Fs_allRings K N o2 h0).bind fun r3 => (fg_o r3.2 r3.1 5).bind fun o4 => (f_IL_has K N o4 a1 r3.2).bind fun r5 => if r5.1 = 0 then (some ((-1), r5.2)) else ((fg_a r5.2 r3.1 5 0).bind fun x6 => (fa_i (K 0) r5.2 x6 a1).bind fun x7 => some (x7, r5.2))
set_option maxHeartbeats 4000000 in
set_option maxRecDepth 100000 in
theorem c_FF_ring {l : Launch} {D : va_G} {K : Nat → ClassId} {t : Nat → Nat} {N : Nat} {o : Nat} {a1 : Int32} {h0 : fh_H} {res : Int32 × fh_H} (hf : f_FF_ring K N o a1 h0 = some res) : fC l D K t y_FF_ring c0_FF_ring 3 (some .int) rm_FF_ring [.ref o, .int a1] h0 (some (.int res.1)) res.2 := by
  refine fh_body (by decide) (Nat.le_of_ble_eq_true rfl) ?_
  intro p e s m below meth c A ls S hr hk hnm hE hAe hI hl
  obtain ⟨hx, hb, hml, hown, hts⟩ := id S
  have hl : lv_has ls 3 [(0, va_rf (some o)), (1, .int a1)] := hl
  unfold f_FF_ring at hf
  refine fh_aload_n S d_FF_ring_0 rfl (lv_at hl 0 rfl) ?_
  obtain ⟨x1, e_x1, hf⟩ := fh_b hf
  refine fh_geta S hE.1 hI e_x1 (hc := rfl) (hin := in_0) (by decide) (hts _ k_40) d_FF_ring_1 ?_
  obtain ⟨o2, e_o2, hf⟩ := fh_b hf
  obtain ⟨r3, e_r3, hf⟩ := fh_b hf
  refine fh_callV (As := []) (rest := []) S fT_good hE hI e_o2 rfl (c_Fs_allRings e_r3) fy_Fs_allRings fst_Fs_allRings k_133 ⟨rfl, rfl⟩ ⟨Nat.le_of_ble_eq_true rfl, Nat.le_of_ble_eq_true rfl⟩ ⟨Nat.zero_le _, Nat.zero_le _⟩ rfl hl.1 rfl (Nat.le_of_ble_eq_true rfl) d_FF_ring_4 (fun H locs hI => ?_)
  refine fh_astore_n (lv' := [(2, va_rf r3.1), (0, va_rf (some o)), (1, .int a1)]) S d_FF_ring_7 rfl hl (by decide) rfl (fun ls hl => ?_)
  refine fh_aload_n S d_FF_ring_8 rfl (lv_at hl 0 rfl) ?_
  refine lv_iload_n hx hb d_FF_ring_9 rfl (lv_at hl 2 rfl) ?_
  obtain ⟨o4, e_o4, hf⟩ := fh_b hf
  obtain ⟨r5, e_r5, hf⟩ := fh_b hf
  refine fh_callV (As := [.int a1]) (rest := []) S fT_good hE hI e_o4 rfl (c_IL_has e_r5) fy_IL_has fst_IL_has k_122 ⟨rfl, rfl⟩ ⟨Nat.le_of_ble_eq_true rfl, Nat.le_of_ble_eq_true rfl⟩ ⟨Nat.zero_le _, Nat.zero_le _⟩ rfl hl.1 rfl (Nat.le_of_ble_eq_true rfl) d_FF_ring_10 (fun H locs hI => ?_)
  refine lv_if_eq (tgt := 25) hx hb d_FF_ring_13 (by decide) (fun c_13 => ?_) (fun c_13 => ?_)
  · replace hf := fh_t c_13 hf
    refine lv_iconst (v := (-1)) hx hb d_FF_ring_25 (by decide) ?_
    obtain rfl := Option.some.inj hf
    exact fh_iret S hr hk rfl hAe hI d_FF_ring_26
  · replace hf := fh_f c_13 hf
    refine fh_aload_n S d_FF_ring_16 rfl (lv_at hl 0 rfl) ?_
    obtain ⟨x6, e_x6, hf⟩ := fh_b hf
    refine fh_geta S hE.1 hI e_x6 (hc := rfl) (hin := in_5) (by decide) (hts _ k_124) d_FF_ring_17 ?_
    refine lv_iload_n hx hb d_FF_ring_20 rfl (lv_at hl 2 rfl) ?_
    obtain ⟨x7, e_x7, hf⟩ := fh_b hf
    refine fh_iald S hE.1 hI 0 rfl e_x7 d_FF_ring_21 ?_
    refine lv_goto (tgt := 26) hx hb d_FF_ring_22 (by decide) ?_
    obtain rfl := Option.some.inj hf
    exact fh_iret S hr hk rfl hAe hI d_FF_ring_26
theorem d_Mo_isIn_0 : decode c0_Mo_isIn 0 = .ok (.iload_n 0, 1) := by decide +kernel
theorem d_Mo_isIn_1 : decode c0_Mo_isIn 1 = .ok (.iload_n 1, 1) := by decide +kernel
theorem d_Mo_isIn_2 : decode c0_Mo_isIn 2 = .ok (.if_icmp .lt 12, 3) := by decide +kernel
theorem d_Mo_isIn_5 : decode c0_Mo_isIn 5 = .ok (.iload_n 0, 1) := by decide +kernel
theorem d_Mo_isIn_6 : decode c0_Mo_isIn 6 = .ok (.iload_n 2, 1) := by decide +kernel
theorem d_Mo_isIn_7 : decode c0_Mo_isIn 7 = .ok (.if_icmp .gt 7, 3) := by decide +kernel
theorem d_Mo_isIn_10 : decode c0_Mo_isIn 10 = .ok (.iconst 1, 1) := by decide +kernel
theorem d_Mo_isIn_11 : decode c0_Mo_isIn 11 = .ok (.goto 4, 3) := by decide +kernel
theorem d_Mo_isIn_14 : decode c0_Mo_isIn 14 = .ok (.iconst 0, 1) := by decide +kernel
theorem d_Mo_isIn_15 : decode c0_Mo_isIn 15 = .ok (.ireturn, 1) := by decide +kernel
def f_Mo_isIn (K : Nat → ClassId) (N : Nat) (a0 : Int32) (a1 : Int32) (a2 : Int32) (h0 : fh_H) : Option (Int32 × fh_H) :=
  if a0 < a1 then (some (0, h0)) else (if a2 < a0 then (some (0, h0)) else (some (1, h0)))
set_option maxHeartbeats 4000000 in
set_option maxRecDepth 100000 in
theorem c_Mo_isIn {l : Launch} {D : va_G} {K : Nat → ClassId} {t : Nat → Nat} {N : Nat} {a0 : Int32} {a1 : Int32} {a2 : Int32} {h0 : fh_H} {res : Int32 × fh_H} (hf : f_Mo_isIn K N a0 a1 a2 h0 = some res) : fC l D K t y_Mo_isIn c0_Mo_isIn 3 (some .boolean) rm_Mo_isIn [.int a0, .int a1, .int a2] h0 (some (.int res.1)) res.2 := by
  refine fh_body (by decide) (Nat.le_of_ble_eq_true rfl) ?_
  intro p e s m below meth c A ls S hr hk hnm hE hAe hI hl
  obtain ⟨hx, hb, hml, hown, hts⟩ := id S
  have hl : lv_has ls 3 [(0, .int a0), (1, .int a1), (2, .int a2)] := hl
  unfold f_Mo_isIn at hf
  refine lv_iload_n hx hb d_Mo_isIn_0 rfl (lv_at hl 0 rfl) ?_
  refine lv_iload_n hx hb d_Mo_isIn_1 rfl (lv_at hl 1 rfl) ?_
  refine lv_icmp_lt (tgt := 14) hx hb d_Mo_isIn_2 (by decide) (fun c_2 => ?_) (fun c_2 => ?_)
  · replace hf := fh_t c_2 hf
    refine lv_iconst (v := 0) hx hb d_Mo_isIn_14 (by decide) ?_
    obtain rfl := Option.some.inj hf
    exact fh_iret S hr hk (fh_nb (Or.inl rfl)) hAe hI d_Mo_isIn_15
  · replace hf := fh_f c_2 hf
    refine lv_iload_n hx hb d_Mo_isIn_5 rfl (lv_at hl 0 rfl) ?_
    refine lv_iload_n hx hb d_Mo_isIn_6 rfl (lv_at hl 2 rfl) ?_
    refine lv_icmp_gt (tgt := 14) hx hb d_Mo_isIn_7 (by decide) (fun c_7 => ?_) (fun c_7 => ?_)
    · replace hf := fh_t c_7 hf
      refine lv_iconst (v := 0) hx hb d_Mo_isIn_14 (by decide) ?_
      obtain rfl := Option.some.inj hf
      exact fh_iret S hr hk (fh_nb (Or.inl rfl)) hAe hI d_Mo_isIn_15
    · replace hf := fh_f c_7 hf
      refine lv_iconst (v := 1) hx hb d_Mo_isIn_10 (by decide) ?_
      refine lv_goto (tgt := 15) hx hb d_Mo_isIn_11 (by decide) ?_
      obtain rfl := Option.some.inj hf
      exact fh_iret S hr hk (fh_nb (Or.inr rfl)) hAe hI d_Mo_isIn_15
theorem d_Mo_mod_0 : decode c0_Mo_mod 0 = .ok (.lload_n 0, 1) := by decide +kernel
theorem d_Mo_mod_1 : decode c0_Mo_mod 1 = .ok (.ldc2_w 49, 3) := by decide +kernel
theorem d_Mo_mod_4 : decode c0_Mo_mod 4 = .ok (.lrem, 1) := by decide +kernel
theorem d_Mo_mod_5 : decode c0_Mo_mod 5 = .ok (.lstore_n 2, 1) := by decide +kernel
theorem d_Mo_mod_6 : decode c0_Mo_mod 6 = .ok (.lload_n 2, 1) := by decide +kernel
theorem d_Mo_mod_7 : decode c0_Mo_mod 7 = .ok (.lconst 0, 1) := by decide +kernel
theorem d_Mo_mod_8 : decode c0_Mo_mod 8 = .ok (.lcmp, 1) := by decide +kernel
theorem d_Mo_mod_9 : decode c0_Mo_mod 9 = .ok (.ifCond .ge 11, 3) := by decide +kernel
theorem d_Mo_mod_12 : decode c0_Mo_mod 12 = .ok (.lload_n 2, 1) := by decide +kernel
theorem d_Mo_mod_13 : decode c0_Mo_mod 13 = .ok (.ldc2_w 49, 3) := by decide +kernel
theorem d_Mo_mod_16 : decode c0_Mo_mod 16 = .ok (.ladd, 1) := by decide +kernel
theorem d_Mo_mod_17 : decode c0_Mo_mod 17 = .ok (.goto 4, 3) := by decide +kernel
theorem d_Mo_mod_20 : decode c0_Mo_mod 20 = .ok (.lload_n 2, 1) := by decide +kernel
theorem d_Mo_mod_21 : decode c0_Mo_mod 21 = .ok (.lreturn, 1) := by decide +kernel
def f_Mo_mod (K : Nat → ClassId) (N : Nat) (a0 : Int64) (h0 : fh_H) : Option (Int64 × fh_H) :=
  (some (fr_l a0 1000003)).bind fun x1 => if 0 ≤ (lg_cmp x1 0) then (some (x1, h0)) else (some (x1 + 1000003, h0))
set_option maxHeartbeats 4000000 in
set_option maxRecDepth 100000 in
theorem c_Mo_mod {l : Launch} {D : va_G} {K : Nat → ClassId} {t : Nat → Nat} {N : Nat} {a0 : Int64} {h0 : fh_H} {res : Int64 × fh_H} (hf : f_Mo_mod K N a0 h0 = some res) : fC l D K t y_Mo_mod c0_Mo_mod 4 (some .long) rm_Mo_mod [.long a0] h0 (some (.long res.1)) res.2 := by
  refine fh_body (by decide) (Nat.le_of_ble_eq_true rfl) ?_
  intro p e s m below meth c A ls S hr hk hnm hE hAe hI hl
  obtain ⟨hx, hb, hml, hown, hts⟩ := id S
  have hl : lv_has ls 4 [(0, .long a0)] := hl
  unfold f_Mo_mod at hf
  refine lv_lload_n hx hb d_Mo_mod_0 rfl (lv_at hl 0 rfl) ?_
  refine lv_ldc2 hx hb hown (hts _ k_134) d_Mo_mod_1 ?_
  refine fh_lrem S d_Mo_mod_4 (by decide) ?_
  obtain ⟨x1, e_x1, hf⟩ := fh_b hf
  refine fh_topl e_x1 ?_
  refine lv_lstore_n (lv' := [(2, .long x1), (0, .long a0)]) hx hb d_Mo_mod_5 rfl hl (by decide) rfl (fun ls hl => ?_)
  refine lv_lload_n hx hb d_Mo_mod_6 rfl (lv_at hl 0 rfl) ?_
  refine lv_lconst (v := 0) hx hb d_Mo_mod_7 (by decide) ?_
  refine W.lcmp hx hb d_Mo_mod_8 ?_
  refine lv_if_ge (tgt := 20) hx hb d_Mo_mod_9 (by decide) (fun c_9 => ?_) (fun c_9 => ?_)
  · replace hf := fh_t c_9 hf
    refine lv_lload_n hx hb d_Mo_mod_20 rfl (lv_at hl 0 rfl) ?_
    obtain rfl := Option.some.inj hf
    exact fh_lret S hr hk hAe hI d_Mo_mod_21
  · replace hf := fh_f c_9 hf
    refine lv_lload_n hx hb d_Mo_mod_12 rfl (lv_at hl 0 rfl) ?_
    refine lv_ldc2 hx hb hown (hts _ k_134) d_Mo_mod_13 ?_
    refine lv_ladd hx hb d_Mo_mod_16 ?_
    refine lv_goto (tgt := 21) hx hb d_Mo_mod_17 (by decide) ?_
    obtain rfl := Option.some.inj hf
    exact fh_lret S hr hk hAe hI d_Mo_mod_21
theorem d_Mo_inverse_0 : decode c0_Mo_inverse 0 = .ok (.lconst 1, 1) := by decide +kernel
theorem d_Mo_inverse_1 : decode c0_Mo_inverse 1 = .ok (.lstore_n 2, 1) := by decide +kernel
theorem d_Mo_inverse_2 : decode c0_Mo_inverse 2 = .ok (.lload_n 0, 1) := by decide +kernel
theorem d_Mo_inverse_3 : decode c0_Mo_inverse 3 = .ok (.invokestatic 51, 3) := by decide +kernel
theorem d_Mo_inverse_6 : decode c0_Mo_inverse 6 = .ok (.lstore 4, 2) := by decide +kernel
theorem d_Mo_inverse_8 : decode c0_Mo_inverse 8 = .ok (.ldc2_w 55, 3) := by decide +kernel
theorem d_Mo_inverse_11 : decode c0_Mo_inverse 11 = .ok (.lstore 6, 2) := by decide +kernel
theorem d_Mo_inverse_13 : decode c0_Mo_inverse 13 = .ok (.lload 6, 2) := by decide +kernel
theorem d_Mo_inverse_15 : decode c0_Mo_inverse 15 = .ok (.lconst 0, 1) := by decide +kernel
theorem d_Mo_inverse_16 : decode c0_Mo_inverse 16 = .ok (.lcmp, 1) := by decide +kernel
theorem d_Mo_inverse_17 : decode c0_Mo_inverse 17 = .ok (.ifCond .le 45, 3) := by decide +kernel
theorem d_Mo_inverse_20 : decode c0_Mo_inverse 20 = .ok (.lload 6, 2) := by decide +kernel
theorem d_Mo_inverse_22 : decode c0_Mo_inverse 22 = .ok (.lconst 1, 1) := by decide +kernel
theorem d_Mo_inverse_23 : decode c0_Mo_inverse 23 = .ok (.land, 1) := by decide +kernel
theorem d_Mo_inverse_24 : decode c0_Mo_inverse 24 = .ok (.lconst 1, 1) := by decide +kernel
theorem d_Mo_inverse_25 : decode c0_Mo_inverse 25 = .ok (.lcmp, 1) := by decide +kernel
theorem d_Mo_inverse_26 : decode c0_Mo_inverse 26 = .ok (.ifCond .ne 14, 3) := by decide +kernel
theorem d_Mo_inverse_29 : decode c0_Mo_inverse 29 = .ok (.lload_n 2, 1) := by decide +kernel
theorem d_Mo_inverse_30 : decode c0_Mo_inverse 30 = .ok (.lload 4, 2) := by decide +kernel
theorem d_Mo_inverse_32 : decode c0_Mo_inverse 32 = .ok (.lmul, 1) := by decide +kernel
theorem d_Mo_inverse_33 : decode c0_Mo_inverse 33 = .ok (.ldc2_w 49, 3) := by decide +kernel
theorem d_Mo_inverse_36 : decode c0_Mo_inverse 36 = .ok (.lrem, 1) := by decide +kernel
theorem d_Mo_inverse_37 : decode c0_Mo_inverse 37 = .ok (.goto 4, 3) := by decide +kernel
theorem d_Mo_inverse_40 : decode c0_Mo_inverse 40 = .ok (.lload_n 2, 1) := by decide +kernel
theorem d_Mo_inverse_41 : decode c0_Mo_inverse 41 = .ok (.lstore_n 2, 1) := by decide +kernel
theorem d_Mo_inverse_42 : decode c0_Mo_inverse 42 = .ok (.lload 4, 2) := by decide +kernel
theorem d_Mo_inverse_44 : decode c0_Mo_inverse 44 = .ok (.lload 4, 2) := by decide +kernel
theorem d_Mo_inverse_46 : decode c0_Mo_inverse 46 = .ok (.lmul, 1) := by decide +kernel
theorem d_Mo_inverse_47 : decode c0_Mo_inverse 47 = .ok (.ldc2_w 49, 3) := by decide +kernel
theorem d_Mo_inverse_50 : decode c0_Mo_inverse 50 = .ok (.lrem, 1) := by decide +kernel
theorem d_Mo_inverse_51 : decode c0_Mo_inverse 51 = .ok (.lstore 4, 2) := by decide +kernel
theorem d_Mo_inverse_53 : decode c0_Mo_inverse 53 = .ok (.lload 6, 2) := by decide +kernel
theorem d_Mo_inverse_55 : decode c0_Mo_inverse 55 = .ok (.iconst 1, 1) := by decide +kernel
theorem d_Mo_inverse_56 : decode c0_Mo_inverse 56 = .ok (.lshr, 1) := by decide +kernel
theorem d_Mo_inverse_57 : decode c0_Mo_inverse 57 = .ok (.lstore 6, 2) := by decide +kernel
theorem d_Mo_inverse_59 : decode c0_Mo_inverse 59 = .ok (.goto (-46), 3) := by decide +kernel
theorem d_Mo_inverse_62 : decode c0_Mo_inverse 62 = .ok (.lload_n 2, 1) := by decide +kernel
theorem d_Mo_inverse_63 : decode c0_Mo_inverse 63 = .ok (.lreturn, 1) := by decide +kernel
def b_Mo_inverse_41 (K : Nat → ClassId) (N : Nat) (k13 : Int64 → Int64 → Int64 → fh_H → Option (Int64 × fh_H)) (v4 : Int64) (v6 : Int64) (w0 : Int64) (h : fh_H) : Option (Int64 × fh_H) :=
  (some (fr_l (v4 * v4) 1000003)).bind fun x1 => (some (v6 >>> ((1 : Int32).toInt64 &&& 63))).bind fun x2 => k13 w0 x1 x2 h
def b_Mo_inverse_13 (K : Nat → ClassId) (N : Nat) (k13 : Int64 → Int64 → Int64 → fh_H → Option (Int64 × fh_H)) (v2 : Int64) (v4 : Int64) (v6 : Int64) (h : fh_H) : Option (Int64 × fh_H) :=
  if (lg_cmp v6 0) ≤ 0 then (some (v2, h)) else (if (lg_cmp (v6 &&& 1) 1) = 0 then (b_Mo_inverse_41 K N k13 v4 v6 (fr_l (v2 * v4) 1000003) h) else (b_Mo_inverse_41 K N k13 v4 v6 v2 h))
def l_Mo_inverse_13 (K : Nat → ClassId) (N : Nat) : Nat → Int64 → Int64 → Int64 → fh_H → Option (Int64 × fh_H)
  | 0, _, _, _, _ => none
  | n + 1, v2, v4, v6, h => b_Mo_inverse_13 K N (l_Mo_inverse_13 K N n) v2 v4 v6 h
def f_Mo_inverse (K : Nat → ClassId) (N : Nat) (a0 : Int64) (h0 : fh_H) : Option (Int64 × fh_H) :=
  (f_Mo_mod K N a0 h0).bind fun r1 => l_Mo_inverse_13 K N N 1 r1.1 1000001 r1.2
set_option maxHeartbeats 4000000 in
set_option maxRecDepth 100000 in
theorem c_Mo_inverse {l : Launch} {D : va_G} {K : Nat → ClassId} {t : Nat → Nat} {N : Nat} {a0 : Int64} {h0 : fh_H} {res : Int64 × fh_H} (hf : f_Mo_inverse K N a0 h0 = some res) : fC l D K t y_Mo_inverse c0_Mo_inverse 8 (some .long) rm_Mo_inverse [.long a0] h0 (some (.long res.1)) res.2 := by
  refine fh_body (by decide) (Nat.le_of_ble_eq_true rfl) ?_
  intro p e s m below meth c A ls S hr hk hnm hE hAe hI hl
  obtain ⟨hx, hb, hml, hown, hts⟩ := id S
  have hl : lv_has ls 8 [(0, .long a0)] := hl
  have L13 : ∀ (n13 : Nat) (v2 : Int64) (v4 : Int64) (v6 : Int64) (h : fh_H) (H : Heap) (locs : List Loc) (ls : Array Slot), lv_has ls 8 [(2, .long v2), (4, .long v4), (6, .long v6)] → fh_I D classes A s.heap h H locs → l_Mo_inverse_13 K N n13 v2 v4 v6 h = some res → W p l e rm_Mo_inverse s m [.long a0].toArray below meth c H locs 0 0 (MQ below (fh_Q D classes h0 s.heap.size (some (.long res.1)) res.2) [.long a0].toArray s 0 0 A) (F0 m 13 ls []) := by
    intro n13
    induction n13 with
    | zero =>
      intro v2 v4 v6 h H locs ls hl hI hf
      exact fh_no hf
    | succ n13 ih13 =>
      have B41 : ∀ (v4 : Int64) (v6 : Int64) (w0 : Int64) (h : fh_H) (H : Heap) (locs : List Loc) (ls : Array Slot), lv_has ls 8 [(4, .long v4), (6, .long v6)] → fh_I D classes A s.heap h H locs → b_Mo_inverse_41 K N (l_Mo_inverse_13 K N n13) v4 v6 w0 h = some res → W p l e rm_Mo_inverse s m [.long a0].toArray below meth c H locs 0 0 (MQ below (fh_Q D classes h0 s.heap.size (some (.long res.1)) res.2) [.long a0].toArray s 0 0 A) (F0 m 41 ls [.long w0]) := by
        intro v4 v6 w0 h H locs ls hl hI hf
        unfold b_Mo_inverse_41 at hf
        refine lv_lstore_n (lv' := [(2, .long w0), (4, .long v4), (6, .long v6)]) hx hb d_Mo_inverse_41 rfl hl (by decide) rfl (fun ls hl => ?_)
        refine lv_lload hx hb d_Mo_inverse_42 (lv_at hl 1 rfl) ?_
        refine lv_lload hx hb d_Mo_inverse_44 (lv_at hl 1 rfl) ?_
        refine lv_lmul hx hb d_Mo_inverse_46 ?_
        refine lv_ldc2 hx hb hown (hts _ k_134) d_Mo_inverse_47 ?_
        refine fh_lrem S d_Mo_inverse_50 (by decide) ?_
        obtain ⟨x1, e_x1, hf⟩ := fh_b hf
        refine fh_topl e_x1 ?_
        refine lv_lstore (lv' := [(4, .long x1), (2, .long w0), (6, .long v6)]) hx hb d_Mo_inverse_51 hl (by decide) rfl (fun ls hl => ?_)
        refine lv_lload hx hb d_Mo_inverse_53 (lv_at hl 2 rfl) ?_
        refine lv_iconst (v := 1) hx hb d_Mo_inverse_55 (by decide) ?_
        refine lv_lshr hx hb d_Mo_inverse_56 rfl ?_
        obtain ⟨x2, e_x2, hf⟩ := fh_b hf
        refine fh_topl e_x2 ?_
        refine lv_lstore (lv' := [(6, .long x2), (4, .long x1), (2, .long w0)]) hx hb d_Mo_inverse_57 hl (by decide) rfl (fun ls hl => ?_)
        refine lv_goto (tgt := 13) hx hb d_Mo_inverse_59 (by decide) ?_
        exact ih13 w0 x1 x2 h _ _ _ (lv_sub hl [2, 1, 0] rfl) hI hf
      intro v2 v4 v6 h H locs ls hl hI hf
      have hf : b_Mo_inverse_13 K N (l_Mo_inverse_13 K N n13) v2 v4 v6 h = some res := hf
      unfold b_Mo_inverse_13 at hf
      refine lv_lload hx hb d_Mo_inverse_13 (lv_at hl 2 rfl) ?_
      refine lv_lconst (v := 0) hx hb d_Mo_inverse_15 (by decide) ?_
      refine W.lcmp hx hb d_Mo_inverse_16 ?_
      refine lv_if_le (tgt := 62) hx hb d_Mo_inverse_17 (by decide) (fun c_17 => ?_) (fun c_17 => ?_)
      · replace hf := fh_t c_17 hf
        refine lv_lload_n hx hb d_Mo_inverse_62 rfl (lv_at hl 0 rfl) ?_
        obtain rfl := Option.some.inj hf
        exact fh_lret S hr hk hAe hI d_Mo_inverse_63
      · replace hf := fh_f c_17 hf
        refine lv_lload hx hb d_Mo_inverse_20 (lv_at hl 2 rfl) ?_
        refine lv_lconst (v := 1) hx hb d_Mo_inverse_22 (by decide) ?_
        refine lv_land hx hb d_Mo_inverse_23 ?_
        refine lv_lconst (v := 1) hx hb d_Mo_inverse_24 (by decide) ?_
        refine W.lcmp hx hb d_Mo_inverse_25 ?_
        refine lv_if_ne (tgt := 40) hx hb d_Mo_inverse_26 (by decide) (fun c_26 => ?_) (fun c_26 => ?_)
        · replace hf := fh_f c_26 hf
          refine lv_lload_n hx hb d_Mo_inverse_40 rfl (lv_at hl 0 rfl) ?_
          exact B41 v4 v6 v2 h _ _ _ (lv_sub hl [1, 2] rfl) hI hf
        · replace hf := fh_t c_26 hf
          refine lv_lload_n hx hb d_Mo_inverse_29 rfl (lv_at hl 0 rfl) ?_
          refine lv_lload hx hb d_Mo_inverse_30 (lv_at hl 1 rfl) ?_
          refine lv_lmul hx hb d_Mo_inverse_32 ?_
          refine lv_ldc2 hx hb hown (hts _ k_134) d_Mo_inverse_33 ?_
          refine fh_lrem S d_Mo_inverse_36 (by decide) ?_
          refine lv_goto (tgt := 41) hx hb d_Mo_inverse_37 (by decide) ?_
          exact B41 v4 v6 (fr_l (v2 * v4) 1000003) h _ _ _ (lv_sub hl [1, 2] rfl) hI hf
  unfold f_Mo_inverse at hf
  refine lv_lconst (v := 1) hx hb d_Mo_inverse_0 (by decide) ?_
  refine lv_lstore_n (lv' := [(2, .long 1), (0, .long a0)]) hx hb d_Mo_inverse_1 rfl hl (by decide) rfl (fun ls hl => ?_)
  refine lv_lload_n hx hb d_Mo_inverse_2 rfl (lv_at hl 1 rfl) ?_
  obtain ⟨r1, e_r1, hf⟩ := fh_b hf
  refine fh_callS (As := [.long a0]) (rest := []) S fT_good hE hI (c_Mo_mod e_r1) fy_Mo_mod fst_Mo_mod k_135 ⟨rfl, rfl⟩ ⟨Nat.le_of_ble_eq_true rfl, Nat.le_of_ble_eq_true rfl⟩ ⟨Nat.zero_le _, Nat.zero_le _⟩ rfl hl.1 rfl (Nat.le_of_ble_eq_true rfl) d_Mo_inverse_3 (fun H locs hI => ?_)
  refine lv_lstore (lv' := [(4, .long r1.1), (2, .long 1), (0, .long a0)]) hx hb d_Mo_inverse_6 hl (by decide) rfl (fun ls hl => ?_)
  refine lv_ldc2 hx hb hown (hts _ k_136) d_Mo_inverse_8 ?_
  refine lv_lstore (lv' := [(6, .long 1000001), (4, .long r1.1), (2, .long 1), (0, .long a0)]) hx hb d_Mo_inverse_11 hl (by decide) rfl (fun ls hl => ?_)
  exact L13 N 1 r1.1 1000001 r1.2 _ _ _ (lv_sub hl [2, 1, 0] rfl) hI hf
theorem d_Mo_needs1_0 : decode c0_Mo_needs1 0 = .ok (.iload_n 0, 1) := by decide +kernel
theorem d_Mo_needs1_1 : decode c0_Mo_needs1 1 = .ok (.tableswitch 69 0 11 #[63, 65, 69, 67, 69, 69, 69, 65, 69, 65, 65, 67], 63) := by decide +kernel
theorem d_Mo_needs1_64 : decode c0_Mo_needs1 64 = .ok (.iconst 0, 1) := by decide +kernel
theorem d_Mo_needs1_65 : decode c0_Mo_needs1 65 = .ok (.ireturn, 1) := by decide +kernel
theorem d_Mo_needs1_66 : decode c0_Mo_needs1 66 = .ok (.iconst 2, 1) := by decide +kernel
theorem d_Mo_needs1_67 : decode c0_Mo_needs1 67 = .ok (.ireturn, 1) := by decide +kernel
theorem d_Mo_needs1_68 : decode c0_Mo_needs1 68 = .ok (.iconst 4, 1) := by decide +kernel
theorem d_Mo_needs1_69 : decode c0_Mo_needs1 69 = .ok (.ireturn, 1) := by decide +kernel
theorem d_Mo_needs1_70 : decode c0_Mo_needs1 70 = .ok (.iconst 3, 1) := by decide +kernel
theorem d_Mo_needs1_71 : decode c0_Mo_needs1 71 = .ok (.ireturn, 1) := by decide +kernel
def f_Mo_needs1 (K : Nat → ClassId) (N : Nat) (a0 : Int32) (h0 : fh_H) : Option (Int32 × fh_H) :=
  if a0 = 0 then (some (0, h0)) else (if a0 = 1 then (some (2, h0)) else (if a0 = 2 then (some (3, h0)) else (if a0 = 3 then (some (4, h0)) else (if a0 = 4 then (some (3, h0)) else (if a0 = 5 then (some (3, h0)) else (if a0 = 6 then (some (3, h0)) else (if a0 = 7 then (some (2, h0)) else (if a0 = 8 then (some (3, h0)) else (if a0 = 9 then (some (2, h0)) else (if a0 = 10 then (some (2, h0)) else (if a0 = 11 then (some (4, h0)) else (some (3, h0)))))))))))))
set_option maxHeartbeats 4000000 in
set_option maxRecDepth 100000 in
theorem c_Mo_needs1 {l : Launch} {D : va_G} {K : Nat → ClassId} {t : Nat → Nat} {N : Nat} {a0 : Int32} {h0 : fh_H} {res : Int32 × fh_H} (hf : f_Mo_needs1 K N a0 h0 = some res) : fC l D K t y_Mo_needs1 c0_Mo_needs1 1 (some .int) rm_Mo_needs1 [.int a0] h0 (some (.int res.1)) res.2 := by
  refine fh_body (by decide) (Nat.le_of_ble_eq_true rfl) ?_
  intro p e s m below meth c A ls S hr hk hnm hE hAe hI hl
  obtain ⟨hx, hb, hml, hown, hts⟩ := id S
  have hl : lv_has ls 1 [(0, .int a0)] := hl
  unfold f_Mo_needs1 at hf
  refine lv_iload_n hx hb d_Mo_needs1_0 rfl (lv_at hl 0 rfl) ?_
  by_cases c_1_0 : a0 = 0
  · replace hf := fh_t c_1_0 hf
    refine lv_tableIn (tgt := 64) hx hb d_Mo_needs1_1 (by rw [c_1_0]; decide) (by rw [c_1_0]; decide) (off := 63) (by rw [c_1_0]; decide) (by decide) ?_
    refine lv_iconst (v := 0) hx hb d_Mo_needs1_64 (by decide) ?_
    obtain rfl := Option.some.inj hf
    exact fh_iret S hr hk rfl hAe hI d_Mo_needs1_65
  replace hf := fh_f c_1_0 hf
  by_cases c_1_1 : a0 = 1
  · replace hf := fh_t c_1_1 hf
    refine lv_tableIn (tgt := 66) hx hb d_Mo_needs1_1 (by rw [c_1_1]; decide) (by rw [c_1_1]; decide) (off := 65) (by rw [c_1_1]; decide) (by decide) ?_
    refine lv_iconst (v := 2) hx hb d_Mo_needs1_66 (by decide) ?_
    obtain rfl := Option.some.inj hf
    exact fh_iret S hr hk rfl hAe hI d_Mo_needs1_67
  replace hf := fh_f c_1_1 hf
  by_cases c_1_2 : a0 = 2
  · replace hf := fh_t c_1_2 hf
    refine lv_tableIn (tgt := 70) hx hb d_Mo_needs1_1 (by rw [c_1_2]; decide) (by rw [c_1_2]; decide) (off := 69) (by rw [c_1_2]; decide) (by decide) ?_
    refine lv_iconst (v := 3) hx hb d_Mo_needs1_70 (by decide) ?_
    obtain rfl := Option.some.inj hf
    exact fh_iret S hr hk rfl hAe hI d_Mo_needs1_71
  replace hf := fh_f c_1_2 hf
  by_cases c_1_3 : a0 = 3
  · replace hf := fh_t c_1_3 hf
    refine lv_tableIn (tgt := 68) hx hb d_Mo_needs1_1 (by rw [c_1_3]; decide) (by rw [c_1_3]; decide) (off := 67) (by rw [c_1_3]; decide) (by decide) ?_
    refine lv_iconst (v := 4) hx hb d_Mo_needs1_68 (by decide) ?_
    obtain rfl := Option.some.inj hf
    exact fh_iret S hr hk rfl hAe hI d_Mo_needs1_69
  replace hf := fh_f c_1_3 hf
  by_cases c_1_4 : a0 = 4
  · replace hf := fh_t c_1_4 hf
    refine lv_tableIn (tgt := 70) hx hb d_Mo_needs1_1 (by rw [c_1_4]; decide) (by rw [c_1_4]; decide) (off := 69) (by rw [c_1_4]; decide) (by decide) ?_
    refine lv_iconst (v := 3) hx hb d_Mo_needs1_70 (by decide) ?_
    obtain rfl := Option.some.inj hf
    exact fh_iret S hr hk rfl hAe hI d_Mo_needs1_71
  replace hf := fh_f c_1_4 hf
  by_cases c_1_5 : a0 = 5
  · replace hf := fh_t c_1_5 hf
    refine lv_tableIn (tgt := 70) hx hb d_Mo_needs1_1 (by rw [c_1_5]; decide) (by rw [c_1_5]; decide) (off := 69) (by rw [c_1_5]; decide) (by decide) ?_
    refine lv_iconst (v := 3) hx hb d_Mo_needs1_70 (by decide) ?_
    obtain rfl := Option.some.inj hf
    exact fh_iret S hr hk rfl hAe hI d_Mo_needs1_71
  replace hf := fh_f c_1_5 hf
  by_cases c_1_6 : a0 = 6
  · replace hf := fh_t c_1_6 hf
    refine lv_tableIn (tgt := 70) hx hb d_Mo_needs1_1 (by rw [c_1_6]; decide) (by rw [c_1_6]; decide) (off := 69) (by rw [c_1_6]; decide) (by decide) ?_
    refine lv_iconst (v := 3) hx hb d_Mo_needs1_70 (by decide) ?_
    obtain rfl := Option.some.inj hf
    exact fh_iret S hr hk rfl hAe hI d_Mo_needs1_71
  replace hf := fh_f c_1_6 hf
  by_cases c_1_7 : a0 = 7
  · replace hf := fh_t c_1_7 hf
    refine lv_tableIn (tgt := 66) hx hb d_Mo_needs1_1 (by rw [c_1_7]; decide) (by rw [c_1_7]; decide) (off := 65) (by rw [c_1_7]; decide) (by decide) ?_
    refine lv_iconst (v := 2) hx hb d_Mo_needs1_66 (by decide) ?_
    obtain rfl := Option.some.inj hf
    exact fh_iret S hr hk rfl hAe hI d_Mo_needs1_67
  replace hf := fh_f c_1_7 hf
  by_cases c_1_8 : a0 = 8
  · replace hf := fh_t c_1_8 hf
    refine lv_tableIn (tgt := 70) hx hb d_Mo_needs1_1 (by rw [c_1_8]; decide) (by rw [c_1_8]; decide) (off := 69) (by rw [c_1_8]; decide) (by decide) ?_
    refine lv_iconst (v := 3) hx hb d_Mo_needs1_70 (by decide) ?_
    obtain rfl := Option.some.inj hf
    exact fh_iret S hr hk rfl hAe hI d_Mo_needs1_71
  replace hf := fh_f c_1_8 hf
  by_cases c_1_9 : a0 = 9
  · replace hf := fh_t c_1_9 hf
    refine lv_tableIn (tgt := 66) hx hb d_Mo_needs1_1 (by rw [c_1_9]; decide) (by rw [c_1_9]; decide) (off := 65) (by rw [c_1_9]; decide) (by decide) ?_
    refine lv_iconst (v := 2) hx hb d_Mo_needs1_66 (by decide) ?_
    obtain rfl := Option.some.inj hf
    exact fh_iret S hr hk rfl hAe hI d_Mo_needs1_67
  replace hf := fh_f c_1_9 hf
  by_cases c_1_10 : a0 = 10
  · replace hf := fh_t c_1_10 hf
    refine lv_tableIn (tgt := 66) hx hb d_Mo_needs1_1 (by rw [c_1_10]; decide) (by rw [c_1_10]; decide) (off := 65) (by rw [c_1_10]; decide) (by decide) ?_
    refine lv_iconst (v := 2) hx hb d_Mo_needs1_66 (by decide) ?_
    obtain rfl := Option.some.inj hf
    exact fh_iret S hr hk rfl hAe hI d_Mo_needs1_67
  replace hf := fh_f c_1_10 hf
  by_cases c_1_11 : a0 = 11
  · replace hf := fh_t c_1_11 hf
    refine lv_tableIn (tgt := 68) hx hb d_Mo_needs1_1 (by rw [c_1_11]; decide) (by rw [c_1_11]; decide) (off := 67) (by rw [c_1_11]; decide) (by decide) ?_
    refine lv_iconst (v := 4) hx hb d_Mo_needs1_68 (by decide) ?_
    obtain rfl := Option.some.inj hf
    exact fh_iret S hr hk rfl hAe hI d_Mo_needs1_69
  replace hf := fh_f c_1_11 hf
  have c_1 : a0.toInt < 0 ∨ 11 < a0.toInt := by
    have q0 : a0.toInt ≠ 0 := fun q => c_1_0 (Int32.toInt_inj.mp (q.trans (by decide)))
    have q1 : a0.toInt ≠ 1 := fun q => c_1_1 (Int32.toInt_inj.mp (q.trans (by decide)))
    have q2 : a0.toInt ≠ 2 := fun q => c_1_2 (Int32.toInt_inj.mp (q.trans (by decide)))
    have q3 : a0.toInt ≠ 3 := fun q => c_1_3 (Int32.toInt_inj.mp (q.trans (by decide)))
    have q4 : a0.toInt ≠ 4 := fun q => c_1_4 (Int32.toInt_inj.mp (q.trans (by decide)))
    have q5 : a0.toInt ≠ 5 := fun q => c_1_5 (Int32.toInt_inj.mp (q.trans (by decide)))
    have q6 : a0.toInt ≠ 6 := fun q => c_1_6 (Int32.toInt_inj.mp (q.trans (by decide)))
    have q7 : a0.toInt ≠ 7 := fun q => c_1_7 (Int32.toInt_inj.mp (q.trans (by decide)))
    have q8 : a0.toInt ≠ 8 := fun q => c_1_8 (Int32.toInt_inj.mp (q.trans (by decide)))
    have q9 : a0.toInt ≠ 9 := fun q => c_1_9 (Int32.toInt_inj.mp (q.trans (by decide)))
    have q10 : a0.toInt ≠ 10 := fun q => c_1_10 (Int32.toInt_inj.mp (q.trans (by decide)))
    have q11 : a0.toInt ≠ 11 := fun q => c_1_11 (Int32.toInt_inj.mp (q.trans (by decide)))
    omega
  refine lv_tableOut (tgt := 70) hx hb d_Mo_needs1_1 c_1 (by decide) ?_
  refine lv_iconst (v := 3) hx hb d_Mo_needs1_70 (by decide) ?_
  obtain rfl := Option.some.inj hf
  exact fh_iret S hr hk rfl hAe hI d_Mo_needs1_71
theorem d_Mo_drawn_0 : decode c0_Mo_drawn 0 = .ok (.aload_n 0, 1) := by decide +kernel
theorem d_Mo_drawn_1 : decode c0_Mo_drawn 1 = .ok (.aload_n 0, 1) := by decide +kernel
theorem d_Mo_drawn_2 : decode c0_Mo_drawn 2 = .ok (.getfield 57, 3) := by decide +kernel
theorem d_Mo_drawn_5 : decode c0_Mo_drawn 5 = .ok (.ldc2_w 61, 3) := by decide +kernel
theorem d_Mo_drawn_8 : decode c0_Mo_drawn 8 = .ok (.lmul, 1) := by decide +kernel
theorem d_Mo_drawn_9 : decode c0_Mo_drawn 9 = .ok (.ldc2_w 63, 3) := by decide +kernel
theorem d_Mo_drawn_12 : decode c0_Mo_drawn 12 = .ok (.lrem, 1) := by decide +kernel
theorem d_Mo_drawn_13 : decode c0_Mo_drawn 13 = .ok (.putfield 57, 3) := by decide +kernel
theorem d_Mo_drawn_16 : decode c0_Mo_drawn 16 = .ok (.aload_n 0, 1) := by decide +kernel
theorem d_Mo_drawn_17 : decode c0_Mo_drawn 17 = .ok (.getfield 57, 3) := by decide +kernel
theorem d_Mo_drawn_20 : decode c0_Mo_drawn 20 = .ok (.ldc2_w 49, 3) := by decide +kernel
theorem d_Mo_drawn_23 : decode c0_Mo_drawn 23 = .ok (.lrem, 1) := by decide +kernel
theorem d_Mo_drawn_24 : decode c0_Mo_drawn 24 = .ok (.lreturn, 1) := by decide +kernel
def f_Mo_drawn (K : Nat → ClassId) (N : Nat) (o : Nat)  (h0 : fh_H) : Option (Int64 × fh_H) :=
  (fg_l h0 (some o) 6 9).bind fun x1 => (fp_v h0 (some o) 6 9 (.long (fr_l (x1 * 48271) 2147483647))).bind fun h2 => (fg_l h2 (some o) 6 9).bind fun x3 => some (fr_l x3 1000003, h2)
set_option maxHeartbeats 4000000 in
set_option maxRecDepth 100000 in
theorem c_Mo_drawn {l : Launch} {D : va_G} {K : Nat → ClassId} {t : Nat → Nat} {N : Nat} {o : Nat}  {h0 : fh_H} {res : Int64 × fh_H} (hf : f_Mo_drawn K N o  h0 = some res) : fC l D K t y_Mo_drawn c0_Mo_drawn 1 (some .long) rm_Mo_drawn [.ref o] h0 (some (.long res.1)) res.2 := by
  refine fh_body (by decide) (Nat.le_of_ble_eq_true rfl) ?_
  intro p e s m below meth c A ls S hr hk hnm hE hAe hI hl
  obtain ⟨hx, hb, hml, hown, hts⟩ := id S
  have hl : lv_has ls 1 [(0, va_rf (some o))] := hl
  unfold f_Mo_drawn at hf
  refine fh_aload_n S d_Mo_drawn_0 rfl (lv_at hl 0 rfl) ?_
  refine fh_aload_n S d_Mo_drawn_1 rfl (lv_at hl 0 rfl) ?_
  obtain ⟨x1, e_x1, hf⟩ := fh_b hf
  refine fh_getl S hE.1 hI e_x1 (hc := rfl) (hin := in_6) (by decide) (hts _ k_137) d_Mo_drawn_2 ?_
  refine lv_ldc2 hx hb hown (hts _ k_138) d_Mo_drawn_5 ?_
  refine lv_lmul hx hb d_Mo_drawn_8 ?_
  refine lv_ldc2 hx hb hown (hts _ k_139) d_Mo_drawn_9 ?_
  refine fh_lrem S d_Mo_drawn_12 (by decide) ?_
  obtain ⟨h2, e_h2, hf⟩ := fh_b hf
  refine fh_putv S hE.1 hI e_h2 (hc := rfl) (hin := in_6) tok_6 nok_6 (by decide) (hts _ k_137) rfl rfl rfl d_Mo_drawn_13 (fun H locs hI => ?_)
  refine fh_aload_n S d_Mo_drawn_16 rfl (lv_at hl 0 rfl) ?_
  obtain ⟨x3, e_x3, hf⟩ := fh_b hf
  refine fh_getl S hE.1 hI e_x3 (hc := rfl) (hin := in_6) (by decide) (hts _ k_137) d_Mo_drawn_17 ?_
  refine lv_ldc2 hx hb hown (hts _ k_134) d_Mo_drawn_20 ?_
  refine fh_lrem S d_Mo_drawn_23 (by decide) ?_
  obtain rfl := Option.some.inj hf
  exact fh_lret S hr hk hAe hI d_Mo_drawn_24
theorem d_Mo_px_0 : decode c0_Mo_px 0 = .ok (.aload_n 0, 1) := by decide +kernel
theorem d_Mo_px_1 : decode c0_Mo_px 1 = .ok (.getfield 23, 3) := by decide +kernel
theorem d_Mo_px_4 : decode c0_Mo_px 4 = .ok (.bipush 10, 2) := by decide +kernel
theorem d_Mo_px_6 : decode c0_Mo_px 6 = .ok (.aload_n 0, 1) := by decide +kernel
theorem d_Mo_px_7 : decode c0_Mo_px 7 = .ok (.getfield 65, 3) := by decide +kernel
theorem d_Mo_px_10 : decode c0_Mo_px 10 = .ok (.imul, 1) := by decide +kernel
theorem d_Mo_px_11 : decode c0_Mo_px 11 = .ok (.iload_n 1, 1) := by decide +kernel
theorem d_Mo_px_12 : decode c0_Mo_px 12 = .ok (.iadd, 1) := by decide +kernel
theorem d_Mo_px_13 : decode c0_Mo_px 13 = .ok (.laload, 1) := by decide +kernel
theorem d_Mo_px_14 : decode c0_Mo_px 14 = .ok (.lreturn, 1) := by decide +kernel
def f_Mo_px (K : Nat → ClassId) (N : Nat) (o : Nat) (a1 : Int32) (h0 : fh_H) : Option (Int64 × fh_H) :=
  (fg_a h0 (some o) 6 5).bind fun x1 => (fg_i h0 (some o) 6 8).bind fun x2 => (fa_l (K 1) h0 x1 ((10 * x2) + a1)).bind fun x3 => some (x3, h0)
set_option maxHeartbeats 4000000 in
set_option maxRecDepth 100000 in
theorem c_Mo_px {l : Launch} {D : va_G} {K : Nat → ClassId} {t : Nat → Nat} {N : Nat} {o : Nat} {a1 : Int32} {h0 : fh_H} {res : Int64 × fh_H} (hf : f_Mo_px K N o a1 h0 = some res) : fC l D K t y_Mo_px c0_Mo_px 2 (some .long) rm_Mo_px [.ref o, .int a1] h0 (some (.long res.1)) res.2 := by
  refine fh_body (by decide) (Nat.le_of_ble_eq_true rfl) ?_
  intro p e s m below meth c A ls S hr hk hnm hE hAe hI hl
  obtain ⟨hx, hb, hml, hown, hts⟩ := id S
  have hl : lv_has ls 2 [(0, va_rf (some o)), (1, .int a1)] := hl
  unfold f_Mo_px at hf
  refine fh_aload_n S d_Mo_px_0 rfl (lv_at hl 0 rfl) ?_
  obtain ⟨x1, e_x1, hf⟩ := fh_b hf
  refine fh_geta S hE.1 hI e_x1 (hc := rfl) (hin := in_6) (by decide) (hts _ k_140) d_Mo_px_1 ?_
  refine lv_bipush (v := 10) hx hb d_Mo_px_4 (by decide) ?_
  refine fh_aload_n S d_Mo_px_6 rfl (lv_at hl 0 rfl) ?_
  obtain ⟨x2, e_x2, hf⟩ := fh_b hf
  refine fh_geti S hE.1 hI e_x2 (hc := rfl) (hin := in_6) (by decide) (hts _ k_141) d_Mo_px_7 ?_
  refine lv_imul hx hb d_Mo_px_10 ?_
  refine lv_iload_n hx hb d_Mo_px_11 rfl (lv_at hl 1 rfl) ?_
  refine lv_iadd hx hb d_Mo_px_12 ?_
  obtain ⟨x3, e_x3, hf⟩ := fh_b hf
  refine fh_lald S hE.1 hI 1 rfl e_x3 d_Mo_px_13 ?_
  obtain rfl := Option.some.inj hf
  exact fh_lret S hr hk hAe hI d_Mo_px_14
theorem d_Mo_py_0 : decode c0_Mo_py 0 = .ok (.aload_n 0, 1) := by decide +kernel
theorem d_Mo_py_1 : decode c0_Mo_py 1 = .ok (.getfield 27, 3) := by decide +kernel
theorem d_Mo_py_4 : decode c0_Mo_py 4 = .ok (.bipush 10, 2) := by decide +kernel
theorem d_Mo_py_6 : decode c0_Mo_py 6 = .ok (.aload_n 0, 1) := by decide +kernel
theorem d_Mo_py_7 : decode c0_Mo_py 7 = .ok (.getfield 65, 3) := by decide +kernel
theorem d_Mo_py_10 : decode c0_Mo_py 10 = .ok (.imul, 1) := by decide +kernel
theorem d_Mo_py_11 : decode c0_Mo_py 11 = .ok (.iload_n 1, 1) := by decide +kernel
theorem d_Mo_py_12 : decode c0_Mo_py 12 = .ok (.iadd, 1) := by decide +kernel
theorem d_Mo_py_13 : decode c0_Mo_py 13 = .ok (.laload, 1) := by decide +kernel
theorem d_Mo_py_14 : decode c0_Mo_py 14 = .ok (.lreturn, 1) := by decide +kernel
def f_Mo_py (K : Nat → ClassId) (N : Nat) (o : Nat) (a1 : Int32) (h0 : fh_H) : Option (Int64 × fh_H) :=
  (fg_a h0 (some o) 6 6).bind fun x1 => (fg_i h0 (some o) 6 8).bind fun x2 => (fa_l (K 1) h0 x1 ((10 * x2) + a1)).bind fun x3 => some (x3, h0)
set_option maxHeartbeats 4000000 in
set_option maxRecDepth 100000 in
theorem c_Mo_py {l : Launch} {D : va_G} {K : Nat → ClassId} {t : Nat → Nat} {N : Nat} {o : Nat} {a1 : Int32} {h0 : fh_H} {res : Int64 × fh_H} (hf : f_Mo_py K N o a1 h0 = some res) : fC l D K t y_Mo_py c0_Mo_py 2 (some .long) rm_Mo_py [.ref o, .int a1] h0 (some (.long res.1)) res.2 := by
  refine fh_body (by decide) (Nat.le_of_ble_eq_true rfl) ?_
  intro p e s m below meth c A ls S hr hk hnm hE hAe hI hl
  obtain ⟨hx, hb, hml, hown, hts⟩ := id S
  have hl : lv_has ls 2 [(0, va_rf (some o)), (1, .int a1)] := hl
  unfold f_Mo_py at hf
  refine fh_aload_n S d_Mo_py_0 rfl (lv_at hl 0 rfl) ?_
  obtain ⟨x1, e_x1, hf⟩ := fh_b hf
  refine fh_geta S hE.1 hI e_x1 (hc := rfl) (hin := in_6) (by decide) (hts _ k_142) d_Mo_py_1 ?_
  refine lv_bipush (v := 10) hx hb d_Mo_py_4 (by decide) ?_
  refine fh_aload_n S d_Mo_py_6 rfl (lv_at hl 0 rfl) ?_
  obtain ⟨x2, e_x2, hf⟩ := fh_b hf
  refine fh_geti S hE.1 hI e_x2 (hc := rfl) (hin := in_6) (by decide) (hts _ k_141) d_Mo_py_7 ?_
  refine lv_imul hx hb d_Mo_py_10 ?_
  refine lv_iload_n hx hb d_Mo_py_11 rfl (lv_at hl 1 rfl) ?_
  refine lv_iadd hx hb d_Mo_py_12 ?_
  obtain ⟨x3, e_x3, hf⟩ := fh_b hf
  refine fh_lald S hE.1 hI 1 rfl e_x3 d_Mo_py_13 ?_
  obtain rfl := Option.some.inj hf
  exact fh_lret S hr hk hAe hI d_Mo_py_14
theorem d_Mo_cross_0 : decode c0_Mo_cross 0 = .ok (.aload_n 0, 1) := by decide +kernel
theorem d_Mo_cross_1 : decode c0_Mo_cross 1 = .ok (.iload_n 2, 1) := by decide +kernel
theorem d_Mo_cross_2 : decode c0_Mo_cross 2 = .ok (.invokevirtual 68, 3) := by decide +kernel
theorem d_Mo_cross_5 : decode c0_Mo_cross 5 = .ok (.aload_n 0, 1) := by decide +kernel
theorem d_Mo_cross_6 : decode c0_Mo_cross 6 = .ok (.iload_n 1, 1) := by decide +kernel
theorem d_Mo_cross_7 : decode c0_Mo_cross 7 = .ok (.invokevirtual 68, 3) := by decide +kernel
theorem d_Mo_cross_10 : decode c0_Mo_cross 10 = .ok (.lsub, 1) := by decide +kernel
theorem d_Mo_cross_11 : decode c0_Mo_cross 11 = .ok (.aload_n 0, 1) := by decide +kernel
theorem d_Mo_cross_12 : decode c0_Mo_cross 12 = .ok (.iload 4, 2) := by decide +kernel
theorem d_Mo_cross_14 : decode c0_Mo_cross 14 = .ok (.invokevirtual 72, 3) := by decide +kernel
theorem d_Mo_cross_17 : decode c0_Mo_cross 17 = .ok (.aload_n 0, 1) := by decide +kernel
theorem d_Mo_cross_18 : decode c0_Mo_cross 18 = .ok (.iload_n 3, 1) := by decide +kernel
theorem d_Mo_cross_19 : decode c0_Mo_cross 19 = .ok (.invokevirtual 72, 3) := by decide +kernel
theorem d_Mo_cross_22 : decode c0_Mo_cross 22 = .ok (.lsub, 1) := by decide +kernel
theorem d_Mo_cross_23 : decode c0_Mo_cross 23 = .ok (.lmul, 1) := by decide +kernel
theorem d_Mo_cross_24 : decode c0_Mo_cross 24 = .ok (.aload_n 0, 1) := by decide +kernel
theorem d_Mo_cross_25 : decode c0_Mo_cross 25 = .ok (.iload_n 2, 1) := by decide +kernel
theorem d_Mo_cross_26 : decode c0_Mo_cross 26 = .ok (.invokevirtual 72, 3) := by decide +kernel
theorem d_Mo_cross_29 : decode c0_Mo_cross 29 = .ok (.aload_n 0, 1) := by decide +kernel
theorem d_Mo_cross_30 : decode c0_Mo_cross 30 = .ok (.iload_n 1, 1) := by decide +kernel
theorem d_Mo_cross_31 : decode c0_Mo_cross 31 = .ok (.invokevirtual 72, 3) := by decide +kernel
theorem d_Mo_cross_34 : decode c0_Mo_cross 34 = .ok (.lsub, 1) := by decide +kernel
theorem d_Mo_cross_35 : decode c0_Mo_cross 35 = .ok (.aload_n 0, 1) := by decide +kernel
theorem d_Mo_cross_36 : decode c0_Mo_cross 36 = .ok (.iload 4, 2) := by decide +kernel
theorem d_Mo_cross_38 : decode c0_Mo_cross 38 = .ok (.invokevirtual 68, 3) := by decide +kernel
theorem d_Mo_cross_41 : decode c0_Mo_cross 41 = .ok (.aload_n 0, 1) := by decide +kernel
theorem d_Mo_cross_42 : decode c0_Mo_cross 42 = .ok (.iload_n 3, 1) := by decide +kernel
theorem d_Mo_cross_43 : decode c0_Mo_cross 43 = .ok (.invokevirtual 68, 3) := by decide +kernel
theorem d_Mo_cross_46 : decode c0_Mo_cross 46 = .ok (.lsub, 1) := by decide +kernel
theorem d_Mo_cross_47 : decode c0_Mo_cross 47 = .ok (.lmul, 1) := by decide +kernel
theorem d_Mo_cross_48 : decode c0_Mo_cross 48 = .ok (.lsub, 1) := by decide +kernel
theorem d_Mo_cross_49 : decode c0_Mo_cross 49 = .ok (.invokestatic 51, 3) := by decide +kernel
theorem d_Mo_cross_52 : decode c0_Mo_cross 52 = .ok (.lreturn, 1) := by decide +kernel
def f_Mo_cross (K : Nat → ClassId) (N : Nat) (o : Nat) (a1 : Int32) (a2 : Int32) (a3 : Int32) (a4 : Int32) (h0 : fh_H) : Option (Int64 × fh_H) :=
  (fg_o h0 (some o) 6).bind fun o1 => (f_Mo_px K N o1 a2 h0).bind fun r2 => (fg_o r2.2 (some o) 6).bind fun o3 => (f_Mo_px K N o3 a1 r2.2).bind fun r4 => (fg_o r4.2 (some o) 6).bind fun o5 => (f_Mo_py K N o5 a4 r4.2).bind fun r6 => (fg_o r6.2 (some o) 6).bind fun o7 => (f_Mo_py K N o7 a3 r6.2).bind fun r8 => (fg_o r8.2 (some o) 6).bind fun o9 => (f_Mo_py K N o9 a2 r8.2).bind fun r10 => (fg_o r10.2 (some o) 6).bind fun o11 => (f_Mo_py K N o11 a1 r10.2).bind fun r12 => (fg_o r12.2 (some o) 6).bind fun o13 => (f_Mo_px K N o13 a4 r12.2).bind fun r14 => (fg_o r14.2 (some o) 6).bind fun o15 => (f_Mo_px K N o15 a3 r14.2).bind fun r16 => (some (((r2.1 - r4.1) * (r6.1 - r8.1)) - ((r10.1 - r12.1) * (r14.1 - r16.1)))).bind fun x17 => (f_Mo_mod K N x17 r16.2).bind fun r18 => some (r18.1, r18.2)
set_option maxHeartbeats 4000000 in
set_option maxRecDepth 100000 in
theorem c_Mo_cross {l : Launch} {D : va_G} {K : Nat → ClassId} {t : Nat → Nat} {N : Nat} {o : Nat} {a1 : Int32} {a2 : Int32} {a3 : Int32} {a4 : Int32} {h0 : fh_H} {res : Int64 × fh_H} (hf : f_Mo_cross K N o a1 a2 a3 a4 h0 = some res) : fC l D K t y_Mo_cross c0_Mo_cross 5 (some .long) rm_Mo_cross [.ref o, .int a1, .int a2, .int a3, .int a4] h0 (some (.long res.1)) res.2 := by
  refine fh_body (by decide) (Nat.le_of_ble_eq_true rfl) ?_
  intro p e s m below meth c A ls S hr hk hnm hE hAe hI hl
  obtain ⟨hx, hb, hml, hown, hts⟩ := id S
  have hl : lv_has ls 5 [(0, va_rf (some o)), (1, .int a1), (2, .int a2), (3, .int a3), (4, .int a4)] := hl
  unfold f_Mo_cross at hf
  refine fh_aload_n S d_Mo_cross_0 rfl (lv_at hl 0 rfl) ?_
  refine lv_iload_n hx hb d_Mo_cross_1 rfl (lv_at hl 2 rfl) ?_
  obtain ⟨o1, e_o1, hf⟩ := fh_b hf
  obtain ⟨r2, e_r2, hf⟩ := fh_b hf
  refine fh_callV (As := [.int a2]) (rest := []) S fT_good hE hI e_o1 rfl (c_Mo_px e_r2) fy_Mo_px fst_Mo_px k_143 ⟨rfl, rfl⟩ ⟨Nat.le_of_ble_eq_true rfl, Nat.le_of_ble_eq_true rfl⟩ ⟨Nat.zero_le _, Nat.zero_le _⟩ rfl hl.1 rfl (Nat.le_of_ble_eq_true rfl) d_Mo_cross_2 (fun H locs hI => ?_)
  refine fh_aload_n S d_Mo_cross_5 rfl (lv_at hl 0 rfl) ?_
  refine lv_iload_n hx hb d_Mo_cross_6 rfl (lv_at hl 1 rfl) ?_
  obtain ⟨o3, e_o3, hf⟩ := fh_b hf
  obtain ⟨r4, e_r4, hf⟩ := fh_b hf
  refine fh_callV (As := [.int a1]) (rest := [.long r2.1]) S fT_good hE hI e_o3 rfl (c_Mo_px e_r4) fy_Mo_px fst_Mo_px k_143 ⟨rfl, rfl⟩ ⟨Nat.le_of_ble_eq_true rfl, Nat.le_of_ble_eq_true rfl⟩ ⟨Nat.zero_le _, Nat.zero_le _⟩ rfl hl.1 rfl (Nat.le_of_ble_eq_true rfl) d_Mo_cross_7 (fun H locs hI => ?_)
  refine lv_lsub hx hb d_Mo_cross_10 ?_
  refine fh_aload_n S d_Mo_cross_11 rfl (lv_at hl 0 rfl) ?_
  refine lv_iload hx hb d_Mo_cross_12 (lv_at hl 4 rfl) ?_
  obtain ⟨o5, e_o5, hf⟩ := fh_b hf
  obtain ⟨r6, e_r6, hf⟩ := fh_b hf
  refine fh_callV (As := [.int a4]) (rest := [.long (r2.1 - r4.1)]) S fT_good hE hI e_o5 rfl (c_Mo_py e_r6) fy_Mo_py fst_Mo_py k_144 ⟨rfl, rfl⟩ ⟨Nat.le_of_ble_eq_true rfl, Nat.le_of_ble_eq_true rfl⟩ ⟨Nat.zero_le _, Nat.zero_le _⟩ rfl hl.1 rfl (Nat.le_of_ble_eq_true rfl) d_Mo_cross_14 (fun H locs hI => ?_)
  refine fh_aload_n S d_Mo_cross_17 rfl (lv_at hl 0 rfl) ?_
  refine lv_iload_n hx hb d_Mo_cross_18 rfl (lv_at hl 3 rfl) ?_
  obtain ⟨o7, e_o7, hf⟩ := fh_b hf
  obtain ⟨r8, e_r8, hf⟩ := fh_b hf
  refine fh_callV (As := [.int a3]) (rest := [.long r6.1, .long (r2.1 - r4.1)]) S fT_good hE hI e_o7 rfl (c_Mo_py e_r8) fy_Mo_py fst_Mo_py k_144 ⟨rfl, rfl⟩ ⟨Nat.le_of_ble_eq_true rfl, Nat.le_of_ble_eq_true rfl⟩ ⟨Nat.zero_le _, Nat.zero_le _⟩ rfl hl.1 rfl (Nat.le_of_ble_eq_true rfl) d_Mo_cross_19 (fun H locs hI => ?_)
  refine lv_lsub hx hb d_Mo_cross_22 ?_
  refine lv_lmul hx hb d_Mo_cross_23 ?_
  refine fh_aload_n S d_Mo_cross_24 rfl (lv_at hl 0 rfl) ?_
  refine lv_iload_n hx hb d_Mo_cross_25 rfl (lv_at hl 2 rfl) ?_
  obtain ⟨o9, e_o9, hf⟩ := fh_b hf
  obtain ⟨r10, e_r10, hf⟩ := fh_b hf
  refine fh_callV (As := [.int a2]) (rest := [.long ((r2.1 - r4.1) * (r6.1 - r8.1))]) S fT_good hE hI e_o9 rfl (c_Mo_py e_r10) fy_Mo_py fst_Mo_py k_144 ⟨rfl, rfl⟩ ⟨Nat.le_of_ble_eq_true rfl, Nat.le_of_ble_eq_true rfl⟩ ⟨Nat.zero_le _, Nat.zero_le _⟩ rfl hl.1 rfl (Nat.le_of_ble_eq_true rfl) d_Mo_cross_26 (fun H locs hI => ?_)
  refine fh_aload_n S d_Mo_cross_29 rfl (lv_at hl 0 rfl) ?_
  refine lv_iload_n hx hb d_Mo_cross_30 rfl (lv_at hl 1 rfl) ?_
  obtain ⟨o11, e_o11, hf⟩ := fh_b hf
  obtain ⟨r12, e_r12, hf⟩ := fh_b hf
  refine fh_callV (As := [.int a1]) (rest := [.long r10.1, .long ((r2.1 - r4.1) * (r6.1 - r8.1))]) S fT_good hE hI e_o11 rfl (c_Mo_py e_r12) fy_Mo_py fst_Mo_py k_144 ⟨rfl, rfl⟩ ⟨Nat.le_of_ble_eq_true rfl, Nat.le_of_ble_eq_true rfl⟩ ⟨Nat.zero_le _, Nat.zero_le _⟩ rfl hl.1 rfl (Nat.le_of_ble_eq_true rfl) d_Mo_cross_31 (fun H locs hI => ?_)
  refine lv_lsub hx hb d_Mo_cross_34 ?_
  refine fh_aload_n S d_Mo_cross_35 rfl (lv_at hl 0 rfl) ?_
  refine lv_iload hx hb d_Mo_cross_36 (lv_at hl 4 rfl) ?_
  obtain ⟨o13, e_o13, hf⟩ := fh_b hf
  obtain ⟨r14, e_r14, hf⟩ := fh_b hf
  refine fh_callV (As := [.int a4]) (rest := [.long (r10.1 - r12.1), .long ((r2.1 - r4.1) * (r6.1 - r8.1))]) S fT_good hE hI e_o13 rfl (c_Mo_px e_r14) fy_Mo_px fst_Mo_px k_143 ⟨rfl, rfl⟩ ⟨Nat.le_of_ble_eq_true rfl, Nat.le_of_ble_eq_true rfl⟩ ⟨Nat.zero_le _, Nat.zero_le _⟩ rfl hl.1 rfl (Nat.le_of_ble_eq_true rfl) d_Mo_cross_38 (fun H locs hI => ?_)
  refine fh_aload_n S d_Mo_cross_41 rfl (lv_at hl 0 rfl) ?_
  refine lv_iload_n hx hb d_Mo_cross_42 rfl (lv_at hl 3 rfl) ?_
  obtain ⟨o15, e_o15, hf⟩ := fh_b hf
  obtain ⟨r16, e_r16, hf⟩ := fh_b hf
  refine fh_callV (As := [.int a3]) (rest := [.long r14.1, .long (r10.1 - r12.1), .long ((r2.1 - r4.1) * (r6.1 - r8.1))]) S fT_good hE hI e_o15 rfl (c_Mo_px e_r16) fy_Mo_px fst_Mo_px k_143 ⟨rfl, rfl⟩ ⟨Nat.le_of_ble_eq_true rfl, Nat.le_of_ble_eq_true rfl⟩ ⟨Nat.zero_le _, Nat.zero_le _⟩ rfl hl.1 rfl (Nat.le_of_ble_eq_true rfl) d_Mo_cross_43 (fun H locs hI => ?_)
  refine lv_lsub hx hb d_Mo_cross_46 ?_
  refine lv_lmul hx hb d_Mo_cross_47 ?_
  refine lv_lsub hx hb d_Mo_cross_48 ?_
  obtain ⟨x17, e_x17, hf⟩ := fh_b hf
  refine fh_topl e_x17 ?_
  obtain ⟨r18, e_r18, hf⟩ := fh_b hf
  refine fh_callS (As := [.long x17]) (rest := []) S fT_good hE hI (c_Mo_mod e_r18) fy_Mo_mod fst_Mo_mod k_135 ⟨rfl, rfl⟩ ⟨Nat.le_of_ble_eq_true rfl, Nat.le_of_ble_eq_true rfl⟩ ⟨Nat.zero_le _, Nat.zero_le _⟩ rfl hl.1 rfl (Nat.le_of_ble_eq_true rfl) d_Mo_cross_49 (fun H locs hI => ?_)
  obtain rfl := Option.some.inj hf
  exact fh_lret S hr hk hAe hI d_Mo_cross_52
theorem d_Mo_dot_0 : decode c0_Mo_dot 0 = .ok (.aload_n 0, 1) := by decide +kernel
theorem d_Mo_dot_1 : decode c0_Mo_dot 1 = .ok (.iload_n 2, 1) := by decide +kernel
theorem d_Mo_dot_2 : decode c0_Mo_dot 2 = .ok (.invokevirtual 68, 3) := by decide +kernel
theorem d_Mo_dot_5 : decode c0_Mo_dot 5 = .ok (.aload_n 0, 1) := by decide +kernel
theorem d_Mo_dot_6 : decode c0_Mo_dot 6 = .ok (.iload_n 1, 1) := by decide +kernel
theorem d_Mo_dot_7 : decode c0_Mo_dot 7 = .ok (.invokevirtual 68, 3) := by decide +kernel
theorem d_Mo_dot_10 : decode c0_Mo_dot 10 = .ok (.lsub, 1) := by decide +kernel
theorem d_Mo_dot_11 : decode c0_Mo_dot 11 = .ok (.aload_n 0, 1) := by decide +kernel
theorem d_Mo_dot_12 : decode c0_Mo_dot 12 = .ok (.iload 4, 2) := by decide +kernel
theorem d_Mo_dot_14 : decode c0_Mo_dot 14 = .ok (.invokevirtual 68, 3) := by decide +kernel
theorem d_Mo_dot_17 : decode c0_Mo_dot 17 = .ok (.aload_n 0, 1) := by decide +kernel
theorem d_Mo_dot_18 : decode c0_Mo_dot 18 = .ok (.iload_n 3, 1) := by decide +kernel
theorem d_Mo_dot_19 : decode c0_Mo_dot 19 = .ok (.invokevirtual 68, 3) := by decide +kernel
theorem d_Mo_dot_22 : decode c0_Mo_dot 22 = .ok (.lsub, 1) := by decide +kernel
theorem d_Mo_dot_23 : decode c0_Mo_dot 23 = .ok (.lmul, 1) := by decide +kernel
theorem d_Mo_dot_24 : decode c0_Mo_dot 24 = .ok (.aload_n 0, 1) := by decide +kernel
theorem d_Mo_dot_25 : decode c0_Mo_dot 25 = .ok (.iload_n 2, 1) := by decide +kernel
theorem d_Mo_dot_26 : decode c0_Mo_dot 26 = .ok (.invokevirtual 72, 3) := by decide +kernel
theorem d_Mo_dot_29 : decode c0_Mo_dot 29 = .ok (.aload_n 0, 1) := by decide +kernel
theorem d_Mo_dot_30 : decode c0_Mo_dot 30 = .ok (.iload_n 1, 1) := by decide +kernel
theorem d_Mo_dot_31 : decode c0_Mo_dot 31 = .ok (.invokevirtual 72, 3) := by decide +kernel
theorem d_Mo_dot_34 : decode c0_Mo_dot 34 = .ok (.lsub, 1) := by decide +kernel
theorem d_Mo_dot_35 : decode c0_Mo_dot 35 = .ok (.aload_n 0, 1) := by decide +kernel
theorem d_Mo_dot_36 : decode c0_Mo_dot 36 = .ok (.iload 4, 2) := by decide +kernel
theorem d_Mo_dot_38 : decode c0_Mo_dot 38 = .ok (.invokevirtual 72, 3) := by decide +kernel
theorem d_Mo_dot_41 : decode c0_Mo_dot 41 = .ok (.aload_n 0, 1) := by decide +kernel
theorem d_Mo_dot_42 : decode c0_Mo_dot 42 = .ok (.iload_n 3, 1) := by decide +kernel
theorem d_Mo_dot_43 : decode c0_Mo_dot 43 = .ok (.invokevirtual 72, 3) := by decide +kernel
theorem d_Mo_dot_46 : decode c0_Mo_dot 46 = .ok (.lsub, 1) := by decide +kernel
theorem d_Mo_dot_47 : decode c0_Mo_dot 47 = .ok (.lmul, 1) := by decide +kernel
theorem d_Mo_dot_48 : decode c0_Mo_dot 48 = .ok (.ladd, 1) := by decide +kernel
theorem d_Mo_dot_49 : decode c0_Mo_dot 49 = .ok (.invokestatic 51, 3) := by decide +kernel
theorem d_Mo_dot_52 : decode c0_Mo_dot 52 = .ok (.lreturn, 1) := by decide +kernel
def f_Mo_dot (K : Nat → ClassId) (N : Nat) (o : Nat) (a1 : Int32) (a2 : Int32) (a3 : Int32) (a4 : Int32) (h0 : fh_H) : Option (Int64 × fh_H) :=
  (fg_o h0 (some o) 6).bind fun o1 => (f_Mo_px K N o1 a2 h0).bind fun r2 => (fg_o r2.2 (some o) 6).bind fun o3 => (f_Mo_px K N o3 a1 r2.2).bind fun r4 => (fg_o r4.2 (some o) 6).bind fun o5 => (f_Mo_px K N o5 a4 r4.2).bind fun r6 => (fg_o r6.2 (some o) 6).bind fun o7 => (f_Mo_px K N o7 a3 r6.2).bind fun r8 => (fg_o r8.2 (some o) 6).bind fun o9 => (f_Mo_py K N o9 a2 r8.2).bind fun r10 => (fg_o r10.2 (some o) 6).bind fun o11 => (f_Mo_py K N o11 a1 r10.2).bind fun r12 => (fg_o r12.2 (some o) 6).bind fun o13 => (f_Mo_py K N o13 a4 r12.2).bind fun r14 => (fg_o r14.2 (some o) 6).bind fun o15 => (f_Mo_py K N o15 a3 r14.2).bind fun r16 => (some (((r2.1 - r4.1) * (r6.1 - r8.1)) + ((r10.1 - r12.1) * (r14.1 - r16.1)))).bind fun x17 => (f_Mo_mod K N x17 r16.2).bind fun r18 => some (r18.1, r18.2)
set_option maxHeartbeats 4000000 in
set_option maxRecDepth 100000 in
theorem c_Mo_dot {l : Launch} {D : va_G} {K : Nat → ClassId} {t : Nat → Nat} {N : Nat} {o : Nat} {a1 : Int32} {a2 : Int32} {a3 : Int32} {a4 : Int32} {h0 : fh_H} {res : Int64 × fh_H} (hf : f_Mo_dot K N o a1 a2 a3 a4 h0 = some res) : fC l D K t y_Mo_dot c0_Mo_dot 5 (some .long) rm_Mo_dot [.ref o, .int a1, .int a2, .int a3, .int a4] h0 (some (.long res.1)) res.2 := by
  refine fh_body (by decide) (Nat.le_of_ble_eq_true rfl) ?_
  intro p e s m below meth c A ls S hr hk hnm hE hAe hI hl
  obtain ⟨hx, hb, hml, hown, hts⟩ := id S
  have hl : lv_has ls 5 [(0, va_rf (some o)), (1, .int a1), (2, .int a2), (3, .int a3), (4, .int a4)] := hl
  unfold f_Mo_dot at hf
  refine fh_aload_n S d_Mo_dot_0 rfl (lv_at hl 0 rfl) ?_
  refine lv_iload_n hx hb d_Mo_dot_1 rfl (lv_at hl 2 rfl) ?_
  obtain ⟨o1, e_o1, hf⟩ := fh_b hf
  obtain ⟨r2, e_r2, hf⟩ := fh_b hf
  refine fh_callV (As := [.int a2]) (rest := []) S fT_good hE hI e_o1 rfl (c_Mo_px e_r2) fy_Mo_px fst_Mo_px k_143 ⟨rfl, rfl⟩ ⟨Nat.le_of_ble_eq_true rfl, Nat.le_of_ble_eq_true rfl⟩ ⟨Nat.zero_le _, Nat.zero_le _⟩ rfl hl.1 rfl (Nat.le_of_ble_eq_true rfl) d_Mo_dot_2 (fun H locs hI => ?_)
  refine fh_aload_n S d_Mo_dot_5 rfl (lv_at hl 0 rfl) ?_
  refine lv_iload_n hx hb d_Mo_dot_6 rfl (lv_at hl 1 rfl) ?_
  obtain ⟨o3, e_o3, hf⟩ := fh_b hf
  obtain ⟨r4, e_r4, hf⟩ := fh_b hf
  refine fh_callV (As := [.int a1]) (rest := [.long r2.1]) S fT_good hE hI e_o3 rfl (c_Mo_px e_r4) fy_Mo_px fst_Mo_px k_143 ⟨rfl, rfl⟩ ⟨Nat.le_of_ble_eq_true rfl, Nat.le_of_ble_eq_true rfl⟩ ⟨Nat.zero_le _, Nat.zero_le _⟩ rfl hl.1 rfl (Nat.le_of_ble_eq_true rfl) d_Mo_dot_7 (fun H locs hI => ?_)
  refine lv_lsub hx hb d_Mo_dot_10 ?_
  refine fh_aload_n S d_Mo_dot_11 rfl (lv_at hl 0 rfl) ?_
  refine lv_iload hx hb d_Mo_dot_12 (lv_at hl 4 rfl) ?_
  obtain ⟨o5, e_o5, hf⟩ := fh_b hf
  obtain ⟨r6, e_r6, hf⟩ := fh_b hf
  refine fh_callV (As := [.int a4]) (rest := [.long (r2.1 - r4.1)]) S fT_good hE hI e_o5 rfl (c_Mo_px e_r6) fy_Mo_px fst_Mo_px k_143 ⟨rfl, rfl⟩ ⟨Nat.le_of_ble_eq_true rfl, Nat.le_of_ble_eq_true rfl⟩ ⟨Nat.zero_le _, Nat.zero_le _⟩ rfl hl.1 rfl (Nat.le_of_ble_eq_true rfl) d_Mo_dot_14 (fun H locs hI => ?_)
  refine fh_aload_n S d_Mo_dot_17 rfl (lv_at hl 0 rfl) ?_
  refine lv_iload_n hx hb d_Mo_dot_18 rfl (lv_at hl 3 rfl) ?_
  obtain ⟨o7, e_o7, hf⟩ := fh_b hf
  obtain ⟨r8, e_r8, hf⟩ := fh_b hf
  refine fh_callV (As := [.int a3]) (rest := [.long r6.1, .long (r2.1 - r4.1)]) S fT_good hE hI e_o7 rfl (c_Mo_px e_r8) fy_Mo_px fst_Mo_px k_143 ⟨rfl, rfl⟩ ⟨Nat.le_of_ble_eq_true rfl, Nat.le_of_ble_eq_true rfl⟩ ⟨Nat.zero_le _, Nat.zero_le _⟩ rfl hl.1 rfl (Nat.le_of_ble_eq_true rfl) d_Mo_dot_19 (fun H locs hI => ?_)
  refine lv_lsub hx hb d_Mo_dot_22 ?_
  refine lv_lmul hx hb d_Mo_dot_23 ?_
  refine fh_aload_n S d_Mo_dot_24 rfl (lv_at hl 0 rfl) ?_
  refine lv_iload_n hx hb d_Mo_dot_25 rfl (lv_at hl 2 rfl) ?_
  obtain ⟨o9, e_o9, hf⟩ := fh_b hf
  obtain ⟨r10, e_r10, hf⟩ := fh_b hf
  refine fh_callV (As := [.int a2]) (rest := [.long ((r2.1 - r4.1) * (r6.1 - r8.1))]) S fT_good hE hI e_o9 rfl (c_Mo_py e_r10) fy_Mo_py fst_Mo_py k_144 ⟨rfl, rfl⟩ ⟨Nat.le_of_ble_eq_true rfl, Nat.le_of_ble_eq_true rfl⟩ ⟨Nat.zero_le _, Nat.zero_le _⟩ rfl hl.1 rfl (Nat.le_of_ble_eq_true rfl) d_Mo_dot_26 (fun H locs hI => ?_)
  refine fh_aload_n S d_Mo_dot_29 rfl (lv_at hl 0 rfl) ?_
  refine lv_iload_n hx hb d_Mo_dot_30 rfl (lv_at hl 1 rfl) ?_
  obtain ⟨o11, e_o11, hf⟩ := fh_b hf
  obtain ⟨r12, e_r12, hf⟩ := fh_b hf
  refine fh_callV (As := [.int a1]) (rest := [.long r10.1, .long ((r2.1 - r4.1) * (r6.1 - r8.1))]) S fT_good hE hI e_o11 rfl (c_Mo_py e_r12) fy_Mo_py fst_Mo_py k_144 ⟨rfl, rfl⟩ ⟨Nat.le_of_ble_eq_true rfl, Nat.le_of_ble_eq_true rfl⟩ ⟨Nat.zero_le _, Nat.zero_le _⟩ rfl hl.1 rfl (Nat.le_of_ble_eq_true rfl) d_Mo_dot_31 (fun H locs hI => ?_)
  refine lv_lsub hx hb d_Mo_dot_34 ?_
  refine fh_aload_n S d_Mo_dot_35 rfl (lv_at hl 0 rfl) ?_
  refine lv_iload hx hb d_Mo_dot_36 (lv_at hl 4 rfl) ?_
  obtain ⟨o13, e_o13, hf⟩ := fh_b hf
  obtain ⟨r14, e_r14, hf⟩ := fh_b hf
  refine fh_callV (As := [.int a4]) (rest := [.long (r10.1 - r12.1), .long ((r2.1 - r4.1) * (r6.1 - r8.1))]) S fT_good hE hI e_o13 rfl (c_Mo_py e_r14) fy_Mo_py fst_Mo_py k_144 ⟨rfl, rfl⟩ ⟨Nat.le_of_ble_eq_true rfl, Nat.le_of_ble_eq_true rfl⟩ ⟨Nat.zero_le _, Nat.zero_le _⟩ rfl hl.1 rfl (Nat.le_of_ble_eq_true rfl) d_Mo_dot_38 (fun H locs hI => ?_)
  refine fh_aload_n S d_Mo_dot_41 rfl (lv_at hl 0 rfl) ?_
  refine lv_iload_n hx hb d_Mo_dot_42 rfl (lv_at hl 3 rfl) ?_
  obtain ⟨o15, e_o15, hf⟩ := fh_b hf
  obtain ⟨r16, e_r16, hf⟩ := fh_b hf
  refine fh_callV (As := [.int a3]) (rest := [.long r14.1, .long (r10.1 - r12.1), .long ((r2.1 - r4.1) * (r6.1 - r8.1))]) S fT_good hE hI e_o15 rfl (c_Mo_py e_r16) fy_Mo_py fst_Mo_py k_144 ⟨rfl, rfl⟩ ⟨Nat.le_of_ble_eq_true rfl, Nat.le_of_ble_eq_true rfl⟩ ⟨Nat.zero_le _, Nat.zero_le _⟩ rfl hl.1 rfl (Nat.le_of_ble_eq_true rfl) d_Mo_dot_43 (fun H locs hI => ?_)
  refine lv_lsub hx hb d_Mo_dot_46 ?_
  refine lv_lmul hx hb d_Mo_dot_47 ?_
  refine lv_ladd hx hb d_Mo_dot_48 ?_
  obtain ⟨x17, e_x17, hf⟩ := fh_b hf
  refine fh_topl e_x17 ?_
  obtain ⟨r18, e_r18, hf⟩ := fh_b hf
  refine fh_callS (As := [.long x17]) (rest := []) S fT_good hE hI (c_Mo_mod e_r18) fy_Mo_mod fst_Mo_mod k_135 ⟨rfl, rfl⟩ ⟨Nat.le_of_ble_eq_true rfl, Nat.le_of_ble_eq_true rfl⟩ ⟨Nat.zero_le _, Nat.zero_le _⟩ rfl hl.1 rfl (Nat.le_of_ble_eq_true rfl) d_Mo_dot_49 (fun H locs hI => ?_)
  obtain rfl := Option.some.inj hf
  exact fh_lret S hr hk hAe hI d_Mo_dot_52
theorem d_Mo_along_0 : decode c0_Mo_along 0 = .ok (.aload_n 0, 1) := by decide +kernel
theorem d_Mo_along_1 : decode c0_Mo_along 1 = .ok (.aload_n 0, 1) := by decide +kernel
theorem d_Mo_along_2 : decode c0_Mo_along 2 = .ok (.iload_n 1, 1) := by decide +kernel
theorem d_Mo_along_3 : decode c0_Mo_along 3 = .ok (.invokevirtual 68, 3) := by decide +kernel
theorem d_Mo_along_6 : decode c0_Mo_along 6 = .ok (.aload_n 0, 1) := by decide +kernel
theorem d_Mo_along_7 : decode c0_Mo_along 7 = .ok (.iload_n 2, 1) := by decide +kernel
theorem d_Mo_along_8 : decode c0_Mo_along 8 = .ok (.invokevirtual 68, 3) := by decide +kernel
theorem d_Mo_along_11 : decode c0_Mo_along 11 = .ok (.aload_n 0, 1) := by decide +kernel
theorem d_Mo_along_12 : decode c0_Mo_along 12 = .ok (.iload_n 1, 1) := by decide +kernel
theorem d_Mo_along_13 : decode c0_Mo_along 13 = .ok (.invokevirtual 68, 3) := by decide +kernel
theorem d_Mo_along_16 : decode c0_Mo_along 16 = .ok (.lsub, 1) := by decide +kernel
theorem d_Mo_along_17 : decode c0_Mo_along 17 = .ok (.lload_n 3, 1) := by decide +kernel
theorem d_Mo_along_18 : decode c0_Mo_along 18 = .ok (.lmul, 1) := by decide +kernel
theorem d_Mo_along_19 : decode c0_Mo_along 19 = .ok (.ladd, 1) := by decide +kernel
theorem d_Mo_along_20 : decode c0_Mo_along 20 = .ok (.invokestatic 51, 3) := by decide +kernel
theorem d_Mo_along_23 : decode c0_Mo_along 23 = .ok (.putfield 75, 3) := by decide +kernel
theorem d_Mo_along_26 : decode c0_Mo_along 26 = .ok (.aload_n 0, 1) := by decide +kernel
theorem d_Mo_along_27 : decode c0_Mo_along 27 = .ok (.aload_n 0, 1) := by decide +kernel
theorem d_Mo_along_28 : decode c0_Mo_along 28 = .ok (.iload_n 1, 1) := by decide +kernel
theorem d_Mo_along_29 : decode c0_Mo_along 29 = .ok (.invokevirtual 72, 3) := by decide +kernel
theorem d_Mo_along_32 : decode c0_Mo_along 32 = .ok (.aload_n 0, 1) := by decide +kernel
theorem d_Mo_along_33 : decode c0_Mo_along 33 = .ok (.iload_n 2, 1) := by decide +kernel
theorem d_Mo_along_34 : decode c0_Mo_along 34 = .ok (.invokevirtual 72, 3) := by decide +kernel
theorem d_Mo_along_37 : decode c0_Mo_along 37 = .ok (.aload_n 0, 1) := by decide +kernel
theorem d_Mo_along_38 : decode c0_Mo_along 38 = .ok (.iload_n 1, 1) := by decide +kernel
theorem d_Mo_along_39 : decode c0_Mo_along 39 = .ok (.invokevirtual 72, 3) := by decide +kernel
theorem d_Mo_along_42 : decode c0_Mo_along 42 = .ok (.lsub, 1) := by decide +kernel
theorem d_Mo_along_43 : decode c0_Mo_along 43 = .ok (.lload_n 3, 1) := by decide +kernel
theorem d_Mo_along_44 : decode c0_Mo_along 44 = .ok (.lmul, 1) := by decide +kernel
theorem d_Mo_along_45 : decode c0_Mo_along 45 = .ok (.ladd, 1) := by decide +kernel
theorem d_Mo_along_46 : decode c0_Mo_along 46 = .ok (.invokestatic 51, 3) := by decide +kernel
theorem d_Mo_along_49 : decode c0_Mo_along 49 = .ok (.putfield 78, 3) := by decide +kernel
theorem d_Mo_along_52 : decode c0_Mo_along 52 = .ok (.return_, 1) := by decide +kernel
def f_Mo_along (K : Nat → ClassId) (N : Nat) (o : Nat) (a1 : Int32) (a2 : Int32) (a3 : Int64) (h0 : fh_H) : Option (fh_H) :=
  (fg_o h0 (some o) 6).bind fun o1 => (f_Mo_px K N o1 a1 h0).bind fun r2 => (fg_o r2.2 (some o) 6).bind fun o3 => (f_Mo_px K N o3 a2 r2.2).bind fun r4 => (fg_o r4.2 (some o) 6).bind fun o5 => (f_Mo_px K N o5 a1 r4.2).bind fun r6 => (f_Mo_mod K N (r2.1 + ((r4.1 - r6.1) * a3)) r6.2).bind fun r7 => (fp_v r7.2 (some o) 6 10 (.long r7.1)).bind fun h8 => (fg_o h8 (some o) 6).bind fun o9 => (f_Mo_py K N o9 a1 h8).bind fun r10 => (fg_o r10.2 (some o) 6).bind fun o11 => (f_Mo_py K N o11 a2 r10.2).bind fun r12 => (fg_o r12.2 (some o) 6).bind fun o13 => (f_Mo_py K N o13 a1 r12.2).bind fun r14 => (f_Mo_mod K N (r10.1 + ((r12.1 - r14.1) * a3)) r14.2).bind fun r15 => (fp_v r15.2 (some o) 6 11 (.long r15.1)).bind fun h16 => some h16
set_option maxHeartbeats 4000000 in
set_option maxRecDepth 100000 in
theorem c_Mo_along {l : Launch} {D : va_G} {K : Nat → ClassId} {t : Nat → Nat} {N : Nat} {o : Nat} {a1 : Int32} {a2 : Int32} {a3 : Int64} {h0 : fh_H} {res : fh_H} (hf : f_Mo_along K N o a1 a2 a3 h0 = some res) : fC l D K t y_Mo_along c0_Mo_along 5 none rm_Mo_along [.ref o, .int a1, .int a2, .long a3] h0 (none) res := by
  refine fh_body (by decide) (Nat.le_of_ble_eq_true rfl) ?_
  intro p e s m below meth c A ls S hr hk hnm hE hAe hI hl
  obtain ⟨hx, hb, hml, hown, hts⟩ := id S
  have hl : lv_has ls 5 [(0, va_rf (some o)), (1, .int a1), (2, .int a2), (3, .long a3)] := hl
  unfold f_Mo_along at hf
  refine fh_aload_n S d_Mo_along_0 rfl (lv_at hl 0 rfl) ?_
  refine fh_aload_n S d_Mo_along_1 rfl (lv_at hl 0 rfl) ?_
  refine lv_iload_n hx hb d_Mo_along_2 rfl (lv_at hl 1 rfl) ?_
  obtain ⟨o1, e_o1, hf⟩ := fh_b hf
  obtain ⟨r2, e_r2, hf⟩ := fh_b hf
  refine fh_callV (As := [.int a1]) (rest := [va_rf (some o)]) S fT_good hE hI e_o1 rfl (c_Mo_px e_r2) fy_Mo_px fst_Mo_px k_143 ⟨rfl, rfl⟩ ⟨Nat.le_of_ble_eq_true rfl, Nat.le_of_ble_eq_true rfl⟩ ⟨Nat.zero_le _, Nat.zero_le _⟩ rfl hl.1 rfl (Nat.le_of_ble_eq_true rfl) d_Mo_along_3 (fun H locs hI => ?_)
  refine fh_aload_n S d_Mo_along_6 rfl (lv_at hl 0 rfl) ?_
  refine lv_iload_n hx hb d_Mo_along_7 rfl (lv_at hl 2 rfl) ?_
  obtain ⟨o3, e_o3, hf⟩ := fh_b hf
  obtain ⟨r4, e_r4, hf⟩ := fh_b hf
  refine fh_callV (As := [.int a2]) (rest := [.long r2.1, va_rf (some o)]) S fT_good hE hI e_o3 rfl (c_Mo_px e_r4) fy_Mo_px fst_Mo_px k_143 ⟨rfl, rfl⟩ ⟨Nat.le_of_ble_eq_true rfl, Nat.le_of_ble_eq_true rfl⟩ ⟨Nat.zero_le _, Nat.zero_le _⟩ rfl hl.1 rfl (Nat.le_of_ble_eq_true rfl) d_Mo_along_8 (fun H locs hI => ?_)
  refine fh_aload_n S d_Mo_along_11 rfl (lv_at hl 0 rfl) ?_
  refine lv_iload_n hx hb d_Mo_along_12 rfl (lv_at hl 1 rfl) ?_
  obtain ⟨o5, e_o5, hf⟩ := fh_b hf
  obtain ⟨r6, e_r6, hf⟩ := fh_b hf
  refine fh_callV (As := [.int a1]) (rest := [.long r4.1, .long r2.1, va_rf (some o)]) S fT_good hE hI e_o5 rfl (c_Mo_px e_r6) fy_Mo_px fst_Mo_px k_143 ⟨rfl, rfl⟩ ⟨Nat.le_of_ble_eq_true rfl, Nat.le_of_ble_eq_true rfl⟩ ⟨Nat.zero_le _, Nat.zero_le _⟩ rfl hl.1 rfl (Nat.le_of_ble_eq_true rfl) d_Mo_along_13 (fun H locs hI => ?_)
  refine lv_lsub hx hb d_Mo_along_16 ?_
  refine lv_lload_n hx hb d_Mo_along_17 rfl (lv_at hl 3 rfl) ?_
  refine lv_lmul hx hb d_Mo_along_18 ?_
  refine lv_ladd hx hb d_Mo_along_19 ?_
  obtain ⟨r7, e_r7, hf⟩ := fh_b hf
  refine fh_callS (As := [.long (r2.1 + ((r4.1 - r6.1) * a3))]) (rest := [va_rf (some o)]) S fT_good hE hI (c_Mo_mod e_r7) fy_Mo_mod fst_Mo_mod k_135 ⟨rfl, rfl⟩ ⟨Nat.le_of_ble_eq_true rfl, Nat.le_of_ble_eq_true rfl⟩ ⟨Nat.zero_le _, Nat.zero_le _⟩ rfl hl.1 rfl (Nat.le_of_ble_eq_true rfl) d_Mo_along_20 (fun H locs hI => ?_)
  obtain ⟨h8, e_h8, hf⟩ := fh_b hf
  refine fh_putv S hE.1 hI e_h8 (hc := rfl) (hin := in_6) tok_6 nok_6 (by decide) (hts _ k_145) rfl rfl rfl d_Mo_along_23 (fun H locs hI => ?_)
  refine fh_aload_n S d_Mo_along_26 rfl (lv_at hl 0 rfl) ?_
  refine fh_aload_n S d_Mo_along_27 rfl (lv_at hl 0 rfl) ?_
  refine lv_iload_n hx hb d_Mo_along_28 rfl (lv_at hl 1 rfl) ?_
  obtain ⟨o9, e_o9, hf⟩ := fh_b hf
  obtain ⟨r10, e_r10, hf⟩ := fh_b hf
  refine fh_callV (As := [.int a1]) (rest := [va_rf (some o)]) S fT_good hE hI e_o9 rfl (c_Mo_py e_r10) fy_Mo_py fst_Mo_py k_144 ⟨rfl, rfl⟩ ⟨Nat.le_of_ble_eq_true rfl, Nat.le_of_ble_eq_true rfl⟩ ⟨Nat.zero_le _, Nat.zero_le _⟩ rfl hl.1 rfl (Nat.le_of_ble_eq_true rfl) d_Mo_along_29 (fun H locs hI => ?_)
  refine fh_aload_n S d_Mo_along_32 rfl (lv_at hl 0 rfl) ?_
  refine lv_iload_n hx hb d_Mo_along_33 rfl (lv_at hl 2 rfl) ?_
  obtain ⟨o11, e_o11, hf⟩ := fh_b hf
  obtain ⟨r12, e_r12, hf⟩ := fh_b hf
  refine fh_callV (As := [.int a2]) (rest := [.long r10.1, va_rf (some o)]) S fT_good hE hI e_o11 rfl (c_Mo_py e_r12) fy_Mo_py fst_Mo_py k_144 ⟨rfl, rfl⟩ ⟨Nat.le_of_ble_eq_true rfl, Nat.le_of_ble_eq_true rfl⟩ ⟨Nat.zero_le _, Nat.zero_le _⟩ rfl hl.1 rfl (Nat.le_of_ble_eq_true rfl) d_Mo_along_34 (fun H locs hI => ?_)
  refine fh_aload_n S d_Mo_along_37 rfl (lv_at hl 0 rfl) ?_
  refine lv_iload_n hx hb d_Mo_along_38 rfl (lv_at hl 1 rfl) ?_
  obtain ⟨o13, e_o13, hf⟩ := fh_b hf
  obtain ⟨r14, e_r14, hf⟩ := fh_b hf
  refine fh_callV (As := [.int a1]) (rest := [.long r12.1, .long r10.1, va_rf (some o)]) S fT_good hE hI e_o13 rfl (c_Mo_py e_r14) fy_Mo_py fst_Mo_py k_144 ⟨rfl, rfl⟩ ⟨Nat.le_of_ble_eq_true rfl, Nat.le_of_ble_eq_true rfl⟩ ⟨Nat.zero_le _, Nat.zero_le _⟩ rfl hl.1 rfl (Nat.le_of_ble_eq_true rfl) d_Mo_along_39 (fun H locs hI => ?_)
  refine lv_lsub hx hb d_Mo_along_42 ?_
  refine lv_lload_n hx hb d_Mo_along_43 rfl (lv_at hl 3 rfl) ?_
  refine lv_lmul hx hb d_Mo_along_44 ?_
  refine lv_ladd hx hb d_Mo_along_45 ?_
  obtain ⟨r15, e_r15, hf⟩ := fh_b hf
  refine fh_callS (As := [.long (r10.1 + ((r12.1 - r14.1) * a3))]) (rest := [va_rf (some o)]) S fT_good hE hI (c_Mo_mod e_r15) fy_Mo_mod fst_Mo_mod k_135 ⟨rfl, rfl⟩ ⟨Nat.le_of_ble_eq_true rfl, Nat.le_of_ble_eq_true rfl⟩ ⟨Nat.zero_le _, Nat.zero_le _⟩ rfl hl.1 rfl (Nat.le_of_ble_eq_true rfl) d_Mo_along_46 (fun H locs hI => ?_)
  obtain ⟨h16, e_h16, hf⟩ := fh_b hf
  refine fh_putv S hE.1 hI e_h16 (hc := rfl) (hin := in_6) tok_6 nok_6 (by decide) (hts _ k_146) rfl rfl rfl d_Mo_along_49 (fun H locs hI => ?_)
  obtain rfl := Option.some.inj hf
  exact fh_vret S hr hk hAe hI d_Mo_along_52
theorem d_Mo_foot_0 : decode c0_Mo_foot 0 = .ok (.aload_n 0, 1) := by decide +kernel
theorem d_Mo_foot_1 : decode c0_Mo_foot 1 = .ok (.iload 5, 2) := by decide +kernel
theorem d_Mo_foot_3 : decode c0_Mo_foot 3 = .ok (.iload 6, 2) := by decide +kernel
theorem d_Mo_foot_5 : decode c0_Mo_foot 5 = .ok (.iload 5, 2) := by decide +kernel
theorem d_Mo_foot_7 : decode c0_Mo_foot 7 = .ok (.iload 6, 2) := by decide +kernel
theorem d_Mo_foot_9 : decode c0_Mo_foot 9 = .ok (.invokevirtual 81, 3) := by decide +kernel
theorem d_Mo_foot_12 : decode c0_Mo_foot 12 = .ok (.lstore 7, 2) := by decide +kernel
theorem d_Mo_foot_14 : decode c0_Mo_foot 14 = .ok (.lload 7, 2) := by decide +kernel
theorem d_Mo_foot_16 : decode c0_Mo_foot 16 = .ok (.lconst 0, 1) := by decide +kernel
theorem d_Mo_foot_17 : decode c0_Mo_foot 17 = .ok (.lcmp, 1) := by decide +kernel
theorem d_Mo_foot_18 : decode c0_Mo_foot 18 = .ok (.ifCond .ne 9, 3) := by decide +kernel
theorem d_Mo_foot_21 : decode c0_Mo_foot 21 = .ok (.aload_n 0, 1) := by decide +kernel
theorem d_Mo_foot_22 : decode c0_Mo_foot 22 = .ok (.iconst 1, 1) := by decide +kernel
theorem d_Mo_foot_23 : decode c0_Mo_foot 23 = .ok (.putfield 85, 3) := by decide +kernel
theorem d_Mo_foot_26 : decode c0_Mo_foot 26 = .ok (.return_, 1) := by decide +kernel
theorem d_Mo_foot_27 : decode c0_Mo_foot 27 = .ok (.lload_n 1, 1) := by decide +kernel
theorem d_Mo_foot_28 : decode c0_Mo_foot 28 = .ok (.aload_n 0, 1) := by decide +kernel
theorem d_Mo_foot_29 : decode c0_Mo_foot 29 = .ok (.iload 5, 2) := by decide +kernel
theorem d_Mo_foot_31 : decode c0_Mo_foot 31 = .ok (.invokevirtual 68, 3) := by decide +kernel
theorem d_Mo_foot_34 : decode c0_Mo_foot 34 = .ok (.lsub, 1) := by decide +kernel
theorem d_Mo_foot_35 : decode c0_Mo_foot 35 = .ok (.invokestatic 51, 3) := by decide +kernel
theorem d_Mo_foot_38 : decode c0_Mo_foot 38 = .ok (.aload_n 0, 1) := by decide +kernel
theorem d_Mo_foot_39 : decode c0_Mo_foot 39 = .ok (.iload 6, 2) := by decide +kernel
theorem d_Mo_foot_41 : decode c0_Mo_foot 41 = .ok (.invokevirtual 68, 3) := by decide +kernel
theorem d_Mo_foot_44 : decode c0_Mo_foot 44 = .ok (.aload_n 0, 1) := by decide +kernel
theorem d_Mo_foot_45 : decode c0_Mo_foot 45 = .ok (.iload 5, 2) := by decide +kernel
theorem d_Mo_foot_47 : decode c0_Mo_foot 47 = .ok (.invokevirtual 68, 3) := by decide +kernel
theorem d_Mo_foot_50 : decode c0_Mo_foot 50 = .ok (.lsub, 1) := by decide +kernel
theorem d_Mo_foot_51 : decode c0_Mo_foot 51 = .ok (.invokestatic 51, 3) := by decide +kernel
theorem d_Mo_foot_54 : decode c0_Mo_foot 54 = .ok (.lmul, 1) := by decide +kernel
theorem d_Mo_foot_55 : decode c0_Mo_foot 55 = .ok (.ldc2_w 49, 3) := by decide +kernel
theorem d_Mo_foot_58 : decode c0_Mo_foot 58 = .ok (.lrem, 1) := by decide +kernel
theorem d_Mo_foot_59 : decode c0_Mo_foot 59 = .ok (.lload_n 3, 1) := by decide +kernel
theorem d_Mo_foot_60 : decode c0_Mo_foot 60 = .ok (.aload_n 0, 1) := by decide +kernel
theorem d_Mo_foot_61 : decode c0_Mo_foot 61 = .ok (.iload 5, 2) := by decide +kernel
theorem d_Mo_foot_63 : decode c0_Mo_foot 63 = .ok (.invokevirtual 72, 3) := by decide +kernel
theorem d_Mo_foot_66 : decode c0_Mo_foot 66 = .ok (.lsub, 1) := by decide +kernel
theorem d_Mo_foot_67 : decode c0_Mo_foot 67 = .ok (.invokestatic 51, 3) := by decide +kernel
theorem d_Mo_foot_70 : decode c0_Mo_foot 70 = .ok (.aload_n 0, 1) := by decide +kernel
theorem d_Mo_foot_71 : decode c0_Mo_foot 71 = .ok (.iload 6, 2) := by decide +kernel
theorem d_Mo_foot_73 : decode c0_Mo_foot 73 = .ok (.invokevirtual 72, 3) := by decide +kernel
theorem d_Mo_foot_76 : decode c0_Mo_foot 76 = .ok (.aload_n 0, 1) := by decide +kernel
theorem d_Mo_foot_77 : decode c0_Mo_foot 77 = .ok (.iload 5, 2) := by decide +kernel
theorem d_Mo_foot_79 : decode c0_Mo_foot 79 = .ok (.invokevirtual 72, 3) := by decide +kernel
theorem d_Mo_foot_82 : decode c0_Mo_foot 82 = .ok (.lsub, 1) := by decide +kernel
theorem d_Mo_foot_83 : decode c0_Mo_foot 83 = .ok (.invokestatic 51, 3) := by decide +kernel
theorem d_Mo_foot_86 : decode c0_Mo_foot 86 = .ok (.lmul, 1) := by decide +kernel
theorem d_Mo_foot_87 : decode c0_Mo_foot 87 = .ok (.ldc2_w 49, 3) := by decide +kernel
theorem d_Mo_foot_90 : decode c0_Mo_foot 90 = .ok (.lrem, 1) := by decide +kernel
theorem d_Mo_foot_91 : decode c0_Mo_foot 91 = .ok (.ladd, 1) := by decide +kernel
theorem d_Mo_foot_92 : decode c0_Mo_foot 92 = .ok (.invokestatic 51, 3) := by decide +kernel
theorem d_Mo_foot_95 : decode c0_Mo_foot 95 = .ok (.lstore 9, 2) := by decide +kernel
theorem d_Mo_foot_97 : decode c0_Mo_foot 97 = .ok (.aload_n 0, 1) := by decide +kernel
theorem d_Mo_foot_98 : decode c0_Mo_foot 98 = .ok (.iload 5, 2) := by decide +kernel
theorem d_Mo_foot_100 : decode c0_Mo_foot 100 = .ok (.iload 6, 2) := by decide +kernel
theorem d_Mo_foot_102 : decode c0_Mo_foot 102 = .ok (.lload 9, 2) := by decide +kernel
theorem d_Mo_foot_104 : decode c0_Mo_foot 104 = .ok (.lload 7, 2) := by decide +kernel
theorem d_Mo_foot_106 : decode c0_Mo_foot 106 = .ok (.invokestatic 89, 3) := by decide +kernel
theorem d_Mo_foot_109 : decode c0_Mo_foot 109 = .ok (.lmul, 1) := by decide +kernel
theorem d_Mo_foot_110 : decode c0_Mo_foot 110 = .ok (.ldc2_w 49, 3) := by decide +kernel
theorem d_Mo_foot_113 : decode c0_Mo_foot 113 = .ok (.lrem, 1) := by decide +kernel
theorem d_Mo_foot_114 : decode c0_Mo_foot 114 = .ok (.invokevirtual 92, 3) := by decide +kernel
theorem d_Mo_foot_117 : decode c0_Mo_foot 117 = .ok (.return_, 1) := by decide +kernel
def f_Mo_foot (K : Nat → ClassId) (N : Nat) (o : Nat) (a1 : Int64) (a3 : Int64) (a5 : Int32) (a6 : Int32) (h0 : fh_H) : Option (fh_H) :=
  (fg_o h0 (some o) 6).bind fun o1 => (f_Mo_dot K N o1 a5 a6 a5 a6 h0).bind fun r2 => if (lg_cmp r2.1 0) = 0 then ((fp_z r2.2 (some o) 6 12 1).bind fun h24 => some h24) else ((fg_o r2.2 (some o) 6).bind fun o3 => (f_Mo_px K N o3 a5 r2.2).bind fun r4 => (f_Mo_mod K N (a1 - r4.1) r4.2).bind fun r5 => (fg_o r5.2 (some o) 6).bind fun o6 => (f_Mo_px K N o6 a6 r5.2).bind fun r7 => (fg_o r7.2 (some o) 6).bind fun o8 => (f_Mo_px K N o8 a5 r7.2).bind fun r9 => (f_Mo_mod K N (r7.1 - r9.1) r9.2).bind fun r10 => (fg_o r10.2 (some o) 6).bind fun o11 => (f_Mo_py K N o11 a5 r10.2).bind fun r12 => (f_Mo_mod K N (a3 - r12.1) r12.2).bind fun r13 => (fg_o r13.2 (some o) 6).bind fun o14 => (f_Mo_py K N o14 a6 r13.2).bind fun r15 => (fg_o r15.2 (some o) 6).bind fun o16 => (f_Mo_py K N o16 a5 r15.2).bind fun r17 => (f_Mo_mod K N (r15.1 - r17.1) r17.2).bind fun r18 => (some ((fr_l (r5.1 * r10.1) 1000003) + (fr_l (r13.1 * r18.1) 1000003))).bind fun x19 => (f_Mo_mod K N x19 r18.2).bind fun r20 => (f_Mo_inverse K N r2.1 r20.2).bind fun r21 => (fg_o r21.2 (some o) 6).bind fun o22 => (f_Mo_along K N o22 a5 a6 (fr_l (r20.1 * r21.1) 1000003) r21.2).bind fun r23 => some r23)
set_option maxHeartbeats 4000000 in
set_option maxRecDepth 100000 in
theorem c_Mo_foot {l : Launch} {D : va_G} {K : Nat → ClassId} {t : Nat → Nat} {N : Nat} {o : Nat} {a1 : Int64} {a3 : Int64} {a5 : Int32} {a6 : Int32} {h0 : fh_H} {res : fh_H} (hf : f_Mo_foot K N o a1 a3 a5 a6 h0 = some res) : fC l D K t y_Mo_foot c0_Mo_foot 11 none rm_Mo_foot [.ref o, .long a1, .long a3, .int a5, .int a6] h0 (none) res := by
  refine fh_body (by decide) (Nat.le_of_ble_eq_true rfl) ?_
  intro p e s m below meth c A ls S hr hk hnm hE hAe hI hl
  obtain ⟨hx, hb, hml, hown, hts⟩ := id S
  have hl : lv_has ls 11 [(0, va_rf (some o)), (1, .long a1), (3, .long a3), (5, .int a5), (6, .int a6)] := hl
  unfold f_Mo_foot at hf
  refine fh_aload_n S d_Mo_foot_0 rfl (lv_at hl 0 rfl) ?_
  refine lv_iload hx hb d_Mo_foot_1 (lv_at hl 3 rfl) ?_
  refine lv_iload hx hb d_Mo_foot_3 (lv_at hl 4 rfl) ?_
  refine lv_iload hx hb d_Mo_foot_5 (lv_at hl 3 rfl) ?_
  refine lv_iload hx hb d_Mo_foot_7 (lv_at hl 4 rfl) ?_
  obtain ⟨o1, e_o1, hf⟩ := fh_b hf
  obtain ⟨r2, e_r2, hf⟩ := fh_b hf
  refine fh_callV (As := [.int a5, .int a6, .int a5, .int a6]) (rest := []) S fT_good hE hI e_o1 rfl (c_Mo_dot e_r2) fy_Mo_dot fst_Mo_dot k_147 ⟨rfl, rfl⟩ ⟨Nat.le_of_ble_eq_true rfl, Nat.le_of_ble_eq_true rfl⟩ ⟨Nat.zero_le _, Nat.zero_le _⟩ rfl hl.1 rfl (Nat.le_of_ble_eq_true rfl) d_Mo_foot_9 (fun H locs hI => ?_)
  refine lv_lstore (lv' := [(7, .long r2.1), (0, va_rf (some o)), (1, .long a1), (3, .long a3), (5, .int a5), (6, .int a6)]) hx hb d_Mo_foot_12 hl (by decide) rfl (fun ls hl => ?_)
  refine lv_lload hx hb d_Mo_foot_14 (lv_at hl 0 rfl) ?_
  refine lv_lconst (v := 0) hx hb d_Mo_foot_16 (by decide) ?_
  refine W.lcmp hx hb d_Mo_foot_17 ?_
  refine lv_if_ne (tgt := 27) hx hb d_Mo_foot_18 (by decide) (fun c_18 => ?_) (fun c_18 => ?_)
  · replace hf := fh_f c_18 hf
    refine lv_lload_n hx hb d_Mo_foot_27 rfl (lv_at hl 2 rfl) ?_
    refine fh_aload_n S d_Mo_foot_28 rfl (lv_at hl 1 rfl) ?_
    refine lv_iload hx hb d_Mo_foot_29 (lv_at hl 4 rfl) ?_
    obtain ⟨o3, e_o3, hf⟩ := fh_b hf
    obtain ⟨r4, e_r4, hf⟩ := fh_b hf
    refine fh_callV (As := [.int a5]) (rest := [.long a1]) S fT_good hE hI e_o3 rfl (c_Mo_px e_r4) fy_Mo_px fst_Mo_px k_143 ⟨rfl, rfl⟩ ⟨Nat.le_of_ble_eq_true rfl, Nat.le_of_ble_eq_true rfl⟩ ⟨Nat.zero_le _, Nat.zero_le _⟩ rfl hl.1 rfl (Nat.le_of_ble_eq_true rfl) d_Mo_foot_31 (fun H locs hI => ?_)
    refine lv_lsub hx hb d_Mo_foot_34 ?_
    obtain ⟨r5, e_r5, hf⟩ := fh_b hf
    refine fh_callS (As := [.long (a1 - r4.1)]) (rest := []) S fT_good hE hI (c_Mo_mod e_r5) fy_Mo_mod fst_Mo_mod k_135 ⟨rfl, rfl⟩ ⟨Nat.le_of_ble_eq_true rfl, Nat.le_of_ble_eq_true rfl⟩ ⟨Nat.zero_le _, Nat.zero_le _⟩ rfl hl.1 rfl (Nat.le_of_ble_eq_true rfl) d_Mo_foot_35 (fun H locs hI => ?_)
    refine fh_aload_n S d_Mo_foot_38 rfl (lv_at hl 1 rfl) ?_
    refine lv_iload hx hb d_Mo_foot_39 (lv_at hl 5 rfl) ?_
    obtain ⟨o6, e_o6, hf⟩ := fh_b hf
    obtain ⟨r7, e_r7, hf⟩ := fh_b hf
    refine fh_callV (As := [.int a6]) (rest := [.long r5.1]) S fT_good hE hI e_o6 rfl (c_Mo_px e_r7) fy_Mo_px fst_Mo_px k_143 ⟨rfl, rfl⟩ ⟨Nat.le_of_ble_eq_true rfl, Nat.le_of_ble_eq_true rfl⟩ ⟨Nat.zero_le _, Nat.zero_le _⟩ rfl hl.1 rfl (Nat.le_of_ble_eq_true rfl) d_Mo_foot_41 (fun H locs hI => ?_)
    refine fh_aload_n S d_Mo_foot_44 rfl (lv_at hl 1 rfl) ?_
    refine lv_iload hx hb d_Mo_foot_45 (lv_at hl 4 rfl) ?_
    obtain ⟨o8, e_o8, hf⟩ := fh_b hf
    obtain ⟨r9, e_r9, hf⟩ := fh_b hf
    refine fh_callV (As := [.int a5]) (rest := [.long r7.1, .long r5.1]) S fT_good hE hI e_o8 rfl (c_Mo_px e_r9) fy_Mo_px fst_Mo_px k_143 ⟨rfl, rfl⟩ ⟨Nat.le_of_ble_eq_true rfl, Nat.le_of_ble_eq_true rfl⟩ ⟨Nat.zero_le _, Nat.zero_le _⟩ rfl hl.1 rfl (Nat.le_of_ble_eq_true rfl) d_Mo_foot_47 (fun H locs hI => ?_)
    refine lv_lsub hx hb d_Mo_foot_50 ?_
    obtain ⟨r10, e_r10, hf⟩ := fh_b hf
    refine fh_callS (As := [.long (r7.1 - r9.1)]) (rest := [.long r5.1]) S fT_good hE hI (c_Mo_mod e_r10) fy_Mo_mod fst_Mo_mod k_135 ⟨rfl, rfl⟩ ⟨Nat.le_of_ble_eq_true rfl, Nat.le_of_ble_eq_true rfl⟩ ⟨Nat.zero_le _, Nat.zero_le _⟩ rfl hl.1 rfl (Nat.le_of_ble_eq_true rfl) d_Mo_foot_51 (fun H locs hI => ?_)
    refine lv_lmul hx hb d_Mo_foot_54 ?_
    refine lv_ldc2 hx hb hown (hts _ k_134) d_Mo_foot_55 ?_
    refine fh_lrem S d_Mo_foot_58 (by decide) ?_
    refine lv_lload_n hx hb d_Mo_foot_59 rfl (lv_at hl 3 rfl) ?_
    refine fh_aload_n S d_Mo_foot_60 rfl (lv_at hl 1 rfl) ?_
    refine lv_iload hx hb d_Mo_foot_61 (lv_at hl 4 rfl) ?_
    obtain ⟨o11, e_o11, hf⟩ := fh_b hf
    obtain ⟨r12, e_r12, hf⟩ := fh_b hf
    refine fh_callV (As := [.int a5]) (rest := [.long a3, .long (fr_l (r5.1 * r10.1) 1000003)]) S fT_good hE hI e_o11 rfl (c_Mo_py e_r12) fy_Mo_py fst_Mo_py k_144 ⟨rfl, rfl⟩ ⟨Nat.le_of_ble_eq_true rfl, Nat.le_of_ble_eq_true rfl⟩ ⟨Nat.zero_le _, Nat.zero_le _⟩ rfl hl.1 rfl (Nat.le_of_ble_eq_true rfl) d_Mo_foot_63 (fun H locs hI => ?_)
    refine lv_lsub hx hb d_Mo_foot_66 ?_
    obtain ⟨r13, e_r13, hf⟩ := fh_b hf
    refine fh_callS (As := [.long (a3 - r12.1)]) (rest := [.long (fr_l (r5.1 * r10.1) 1000003)]) S fT_good hE hI (c_Mo_mod e_r13) fy_Mo_mod fst_Mo_mod k_135 ⟨rfl, rfl⟩ ⟨Nat.le_of_ble_eq_true rfl, Nat.le_of_ble_eq_true rfl⟩ ⟨Nat.zero_le _, Nat.zero_le _⟩ rfl hl.1 rfl (Nat.le_of_ble_eq_true rfl) d_Mo_foot_67 (fun H locs hI => ?_)
    refine fh_aload_n S d_Mo_foot_70 rfl (lv_at hl 1 rfl) ?_
    refine lv_iload hx hb d_Mo_foot_71 (lv_at hl 5 rfl) ?_
    obtain ⟨o14, e_o14, hf⟩ := fh_b hf
    obtain ⟨r15, e_r15, hf⟩ := fh_b hf
    refine fh_callV (As := [.int a6]) (rest := [.long r13.1, .long (fr_l (r5.1 * r10.1) 1000003)]) S fT_good hE hI e_o14 rfl (c_Mo_py e_r15) fy_Mo_py fst_Mo_py k_144 ⟨rfl, rfl⟩ ⟨Nat.le_of_ble_eq_true rfl, Nat.le_of_ble_eq_true rfl⟩ ⟨Nat.zero_le _, Nat.zero_le _⟩ rfl hl.1 rfl (Nat.le_of_ble_eq_true rfl) d_Mo_foot_73 (fun H locs hI => ?_)
    refine fh_aload_n S d_Mo_foot_76 rfl (lv_at hl 1 rfl) ?_
    refine lv_iload hx hb d_Mo_foot_77 (lv_at hl 4 rfl) ?_
    obtain ⟨o16, e_o16, hf⟩ := fh_b hf
    obtain ⟨r17, e_r17, hf⟩ := fh_b hf
    refine fh_callV (As := [.int a5]) (rest := [.long r15.1, .long r13.1, .long (fr_l (r5.1 * r10.1) 1000003)]) S fT_good hE hI e_o16 rfl (c_Mo_py e_r17) fy_Mo_py fst_Mo_py k_144 ⟨rfl, rfl⟩ ⟨Nat.le_of_ble_eq_true rfl, Nat.le_of_ble_eq_true rfl⟩ ⟨Nat.zero_le _, Nat.zero_le _⟩ rfl hl.1 rfl (Nat.le_of_ble_eq_true rfl) d_Mo_foot_79 (fun H locs hI => ?_)
    refine lv_lsub hx hb d_Mo_foot_82 ?_
    obtain ⟨r18, e_r18, hf⟩ := fh_b hf
    refine fh_callS (As := [.long (r15.1 - r17.1)]) (rest := [.long r13.1, .long (fr_l (r5.1 * r10.1) 1000003)]) S fT_good hE hI (c_Mo_mod e_r18) fy_Mo_mod fst_Mo_mod k_135 ⟨rfl, rfl⟩ ⟨Nat.le_of_ble_eq_true rfl, Nat.le_of_ble_eq_true rfl⟩ ⟨Nat.zero_le _, Nat.zero_le _⟩ rfl hl.1 rfl (Nat.le_of_ble_eq_true rfl) d_Mo_foot_83 (fun H locs hI => ?_)
    refine lv_lmul hx hb d_Mo_foot_86 ?_
    refine lv_ldc2 hx hb hown (hts _ k_134) d_Mo_foot_87 ?_
    refine fh_lrem S d_Mo_foot_90 (by decide) ?_
    refine lv_ladd hx hb d_Mo_foot_91 ?_
    obtain ⟨x19, e_x19, hf⟩ := fh_b hf
    refine fh_topl e_x19 ?_
    obtain ⟨r20, e_r20, hf⟩ := fh_b hf
    refine fh_callS (As := [.long x19]) (rest := []) S fT_good hE hI (c_Mo_mod e_r20) fy_Mo_mod fst_Mo_mod k_135 ⟨rfl, rfl⟩ ⟨Nat.le_of_ble_eq_true rfl, Nat.le_of_ble_eq_true rfl⟩ ⟨Nat.zero_le _, Nat.zero_le _⟩ rfl hl.1 rfl (Nat.le_of_ble_eq_true rfl) d_Mo_foot_92 (fun H locs hI => ?_)
    refine lv_lstore (lv' := [(9, .long r20.1), (7, .long r2.1), (0, va_rf (some o)), (1, .long a1), (3, .long a3), (5, .int a5), (6, .int a6)]) hx hb d_Mo_foot_95 hl (by decide) rfl (fun ls hl => ?_)
    refine fh_aload_n S d_Mo_foot_97 rfl (lv_at hl 2 rfl) ?_
    refine lv_iload hx hb d_Mo_foot_98 (lv_at hl 5 rfl) ?_
    refine lv_iload hx hb d_Mo_foot_100 (lv_at hl 6 rfl) ?_
    refine lv_lload hx hb d_Mo_foot_102 (lv_at hl 0 rfl) ?_
    refine lv_lload hx hb d_Mo_foot_104 (lv_at hl 1 rfl) ?_
    obtain ⟨r21, e_r21, hf⟩ := fh_b hf
    refine fh_callS (As := [.long r2.1]) (rest := [.long r20.1, .int a6, .int a5, va_rf (some o)]) S fT_good hE hI (c_Mo_inverse e_r21) fy_Mo_inverse fst_Mo_inverse k_148 ⟨rfl, rfl⟩ ⟨Nat.le_of_ble_eq_true rfl, Nat.le_of_ble_eq_true rfl⟩ ⟨Nat.zero_le _, Nat.zero_le _⟩ rfl hl.1 rfl (Nat.le_of_ble_eq_true rfl) d_Mo_foot_106 (fun H locs hI => ?_)
    refine lv_lmul hx hb d_Mo_foot_109 ?_
    refine lv_ldc2 hx hb hown (hts _ k_134) d_Mo_foot_110 ?_
    refine fh_lrem S d_Mo_foot_113 (by decide) ?_
    obtain ⟨o22, e_o22, hf⟩ := fh_b hf
    obtain ⟨r23, e_r23, hf⟩ := fh_b hf
    refine fh_callV (As := [.int a5, .int a6, .long (fr_l (r20.1 * r21.1) 1000003)]) (rest := []) S fT_good hE hI e_o22 rfl (c_Mo_along e_r23) fy_Mo_along fst_Mo_along k_149 ⟨rfl, rfl⟩ ⟨Nat.le_of_ble_eq_true rfl, Nat.le_of_ble_eq_true rfl⟩ ⟨Nat.zero_le _, Nat.zero_le _⟩ rfl hl.1 rfl (Nat.le_of_ble_eq_true rfl) d_Mo_foot_114 (fun H locs hI => ?_)
    obtain rfl := Option.some.inj hf
    exact fh_vret S hr hk hAe hI d_Mo_foot_117
  · replace hf := fh_t c_18 hf
    refine fh_aload_n S d_Mo_foot_21 rfl (lv_at hl 1 rfl) ?_
    refine lv_iconst (v := 1) hx hb d_Mo_foot_22 (by decide) ?_
    obtain ⟨h24, e_h24, hf⟩ := fh_b hf
    refine fh_putz S hE.1 hI e_h24 (hc := rfl) (hin := in_6) tok_6 nok_6 (by decide) (hts _ k_150) rfl rfl d_Mo_foot_23 (fun H locs hI => ?_)
    obtain rfl := Option.some.inj hf
    exact fh_vret S hr hk hAe hI d_Mo_foot_26
