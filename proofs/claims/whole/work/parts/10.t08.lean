theorem d_Mo_findSame_0 : decode c0_Mo_findSame 0 = .ok (.iconst 0, 1) := by decide +kernel
theorem d_Mo_findSame_1 : decode c0_Mo_findSame 1 = .ok (.istore_n 1, 1) := by decide +kernel
theorem d_Mo_findSame_2 : decode c0_Mo_findSame 2 = .ok (.iload_n 1, 1) := by decide +kernel
theorem d_Mo_findSame_3 : decode c0_Mo_findSame 3 = .ok (.aload_n 0, 1) := by decide +kernel
theorem d_Mo_findSame_4 : decode c0_Mo_findSame 4 = .ok (.getfield 131, 3) := by decide +kernel
theorem d_Mo_findSame_7 : decode c0_Mo_findSame 7 = .ok (.if_icmp .ge 66, 3) := by decide +kernel
theorem d_Mo_findSame_10 : decode c0_Mo_findSame 10 = .ok (.iconst 0, 1) := by decide +kernel
theorem d_Mo_findSame_11 : decode c0_Mo_findSame 11 = .ok (.istore_n 2, 1) := by decide +kernel
theorem d_Mo_findSame_12 : decode c0_Mo_findSame 12 = .ok (.iload_n 2, 1) := by decide +kernel
theorem d_Mo_findSame_13 : decode c0_Mo_findSame 13 = .ok (.aload_n 0, 1) := by decide +kernel
theorem d_Mo_findSame_14 : decode c0_Mo_findSame 14 = .ok (.getfield 131, 3) := by decide +kernel
theorem d_Mo_findSame_17 : decode c0_Mo_findSame 17 = .ok (.if_icmp .ge 50, 3) := by decide +kernel
theorem d_Mo_findSame_20 : decode c0_Mo_findSame 20 = .ok (.aload_n 0, 1) := by decide +kernel
theorem d_Mo_findSame_21 : decode c0_Mo_findSame 21 = .ok (.iload_n 1, 1) := by decide +kernel
theorem d_Mo_findSame_22 : decode c0_Mo_findSame 22 = .ok (.iload_n 2, 1) := by decide +kernel
theorem d_Mo_findSame_23 : decode c0_Mo_findSame 23 = .ok (.iconst 0, 1) := by decide +kernel
theorem d_Mo_findSame_24 : decode c0_Mo_findSame 24 = .ok (.iconst 0, 1) := by decide +kernel
theorem d_Mo_findSame_25 : decode c0_Mo_findSame 25 = .ok (.iconst 0, 1) := by decide +kernel
theorem d_Mo_findSame_26 : decode c0_Mo_findSame 26 = .ok (.iconst 0, 1) := by decide +kernel
theorem d_Mo_findSame_27 : decode c0_Mo_findSame 27 = .ok (.invokevirtual 198, 3) := by decide +kernel
theorem d_Mo_findSame_30 : decode c0_Mo_findSame 30 = .ok (.aload_n 0, 1) := by decide +kernel
theorem d_Mo_findSame_31 : decode c0_Mo_findSame 31 = .ok (.getfield 36, 3) := by decide +kernel
theorem d_Mo_findSame_34 : decode c0_Mo_findSame 34 = .ok (.bipush 10, 2) := by decide +kernel
theorem d_Mo_findSame_36 : decode c0_Mo_findSame 36 = .ok (.iload_n 1, 1) := by decide +kernel
theorem d_Mo_findSame_37 : decode c0_Mo_findSame 37 = .ok (.imul, 1) := by decide +kernel
theorem d_Mo_findSame_38 : decode c0_Mo_findSame 38 = .ok (.iload_n 2, 1) := by decide +kernel
theorem d_Mo_findSame_39 : decode c0_Mo_findSame 39 = .ok (.iadd, 1) := by decide +kernel
theorem d_Mo_findSame_40 : decode c0_Mo_findSame 40 = .ok (.iload_n 1, 1) := by decide +kernel
theorem d_Mo_findSame_41 : decode c0_Mo_findSame 41 = .ok (.iload_n 2, 1) := by decide +kernel
theorem d_Mo_findSame_42 : decode c0_Mo_findSame 42 = .ok (.if_icmp .eq 13, 3) := by decide +kernel
theorem d_Mo_findSame_45 : decode c0_Mo_findSame 45 = .ok (.aload_n 0, 1) := by decide +kernel
theorem d_Mo_findSame_46 : decode c0_Mo_findSame 46 = .ok (.iconst 0, 1) := by decide +kernel
theorem d_Mo_findSame_47 : decode c0_Mo_findSame 47 = .ok (.iconst 0, 1) := by decide +kernel
theorem d_Mo_findSame_48 : decode c0_Mo_findSame 48 = .ok (.iconst 0, 1) := by decide +kernel
theorem d_Mo_findSame_49 : decode c0_Mo_findSame 49 = .ok (.invokevirtual 185, 3) := by decide +kernel
theorem d_Mo_findSame_52 : decode c0_Mo_findSame 52 = .ok (.ifCond .eq 7, 3) := by decide +kernel
theorem d_Mo_findSame_55 : decode c0_Mo_findSame 55 = .ok (.iconst 1, 1) := by decide +kernel
theorem d_Mo_findSame_56 : decode c0_Mo_findSame 56 = .ok (.goto 4, 3) := by decide +kernel
theorem d_Mo_findSame_59 : decode c0_Mo_findSame 59 = .ok (.iconst 0, 1) := by decide +kernel
theorem d_Mo_findSame_60 : decode c0_Mo_findSame 60 = .ok (.bastore, 1) := by decide +kernel
theorem d_Mo_findSame_61 : decode c0_Mo_findSame 61 = .ok (.iinc 2 1, 3) := by decide +kernel
theorem d_Mo_findSame_64 : decode c0_Mo_findSame 64 = .ok (.goto (-52), 3) := by decide +kernel
theorem d_Mo_findSame_67 : decode c0_Mo_findSame 67 = .ok (.iinc 1 1, 3) := by decide +kernel
theorem d_Mo_findSame_70 : decode c0_Mo_findSame 70 = .ok (.goto (-68), 3) := by decide +kernel
theorem d_Mo_findSame_73 : decode c0_Mo_findSame 73 = .ok (.return_, 1) := by decide +kernel
def b_Mo_findSame_60 (K : Nat → ClassId) (N : Nat) (k2 : Int32 → fh_H → Option (fh_H)) (k12 : Int32 → Int32 → fh_H → Option (fh_H)) (o : Nat) (v1 : Int32) (v2 : Int32) (w0 : Option Nat) (w1 : Int32) (w2 : Int32) (h : fh_H) : Option (fh_H) :=
  (fs_z (K 2) h w0 w1 w2).bind fun h1 => (some (v2 + 1)).bind fun x2 => k12 v1 x2 h1
def b_Mo_findSame_55 (K : Nat → ClassId) (N : Nat) (k2 : Int32 → fh_H → Option (fh_H)) (k12 : Int32 → Int32 → fh_H → Option (fh_H)) (o : Nat) (v1 : Int32) (v2 : Int32) (w0 : Option Nat) (w1 : Int32) (h : fh_H) : Option (fh_H) :=
  b_Mo_findSame_60 K N k2 k12 o v1 v2 w0 w1 1 h
def b_Mo_findSame_12 (K : Nat → ClassId) (N : Nat) (k2 : Int32 → fh_H → Option (fh_H)) (k12 : Int32 → Int32 → fh_H → Option (fh_H)) (o : Nat) (v1 : Int32) (v2 : Int32) (h : fh_H) : Option (fh_H) :=
  (fg_i h (some o) 6 0).bind fun x1 => if x1 ≤ v2 then ((some (v1 + 1)).bind fun x2 => k2 x2 h) else ((fg_o h (some o) 6).bind fun o3 => (f_Mo_setRow K N o3 v1 v2 0 0 0 0 h).bind fun r4 => (fg_a r4 (some o) 6 16).bind fun x5 => if v1 = v2 then (b_Mo_findSame_55 K N k2 k12 o v1 v2 x5 ((10 * v1) + v2) r4) else ((fg_o r4 (some o) 6).bind fun o6 => (f_Mo_isAlways K N o6 0 0 0 r4).bind fun r7 => if r7.1 = 0 then (b_Mo_findSame_60 K N k2 k12 o v1 v2 x5 ((10 * v1) + v2) 0 r7.2) else (b_Mo_findSame_55 K N k2 k12 o v1 v2 x5 ((10 * v1) + v2) r7.2)))
def l_Mo_findSame_12 (K : Nat → ClassId) (N : Nat) (k2 : Int32 → fh_H → Option (fh_H)) (o : Nat) : Nat → Int32 → Int32 → fh_H → Option (fh_H)
  | 0, _, _, _ => none
  | n + 1, v1, v2, h => b_Mo_findSame_12 K N k2 (l_Mo_findSame_12 K N k2 o n) o v1 v2 h
def b_Mo_findSame_2 (K : Nat → ClassId) (N : Nat) (k2 : Int32 → fh_H → Option (fh_H)) (o : Nat) (v1 : Int32) (h : fh_H) : Option (fh_H) :=
  (fg_i h (some o) 6 0).bind fun x1 => if x1 ≤ v1 then (some h) else (l_Mo_findSame_12 K N k2 o N v1 0 h)
def l_Mo_findSame_2 (K : Nat → ClassId) (N : Nat) (o : Nat) : Nat → Int32 → fh_H → Option (fh_H)
  | 0, _, _ => none
  | n + 1, v1, h => b_Mo_findSame_2 K N (l_Mo_findSame_2 K N o n) o v1 h
def f_Mo_findSame (K : Nat → ClassId) (N : Nat) (o : Nat)  (h0 : fh_H) : Option (fh_H) :=
  l_Mo_findSame_2 K N o N 0 h0
set_option maxHeartbeats 4000000 in
set_option maxRecDepth 100000 in
theorem c_Mo_findSame {l : Launch} {D : va_G} {K : Nat → ClassId} {t : Nat → Nat} {N : Nat} {o : Nat}  {h0 : fh_H} {res : fh_H} (hf : f_Mo_findSame K N o  h0 = some res) : fC l D K t y_Mo_findSame c0_Mo_findSame 3 none rm_Mo_findSame [.ref o] h0 (none) res := by
  refine fh_body (by decide) (Nat.le_of_ble_eq_true rfl) ?_
  intro p e s m below meth c A ls S hr hk hnm hE hAe hI hl
  obtain ⟨hx, hb, hml, hown, hts⟩ := id S
  have hl : lv_has ls 3 [(0, va_rf (some o))] := hl
  have L2 : ∀ (n2 : Nat) (v1 : Int32) (h : fh_H) (H : Heap) (locs : List Loc) (ls : Array Slot), lv_has ls 3 [(0, va_rf (some o)), (1, .int v1)] → fh_I D classes A s.heap h H locs → l_Mo_findSame_2 K N o n2 v1 h = some res → W p l e rm_Mo_findSame s m [.ref o].toArray below meth c H locs 0 0 (MQ below (fh_Q D classes h0 s.heap.size (none) res) [.ref o].toArray s 0 0 A) (F0 m 2 ls []) := by
    intro n2
    induction n2 with
    | zero =>
      intro v1 h H locs ls hl hI hf
      exact fh_no hf
    | succ n2 ih2 =>
      have L12 : ∀ (n12 : Nat) (v1 : Int32) (v2 : Int32) (h : fh_H) (H : Heap) (locs : List Loc) (ls : Array Slot), lv_has ls 3 [(0, va_rf (some o)), (1, .int v1), (2, .int v2)] → fh_I D classes A s.heap h H locs → l_Mo_findSame_12 K N (l_Mo_findSame_2 K N o n2) o n12 v1 v2 h = some res → W p l e rm_Mo_findSame s m [.ref o].toArray below meth c H locs 0 0 (MQ below (fh_Q D classes h0 s.heap.size (none) res) [.ref o].toArray s 0 0 A) (F0 m 12 ls []) := by
        intro n12
        induction n12 with
        | zero =>
          intro v1 v2 h H locs ls hl hI hf
          exact fh_no hf
        | succ n12 ih12 =>
          have B60 : ∀ (v1 : Int32) (v2 : Int32) (w0 : Option Nat) (w1 : Int32) (w2 : Int32) (h : fh_H) (H : Heap) (locs : List Loc) (ls : Array Slot), lv_has ls 3 [(0, va_rf (some o)), (1, .int v1), (2, .int v2)] → fh_I D classes A s.heap h H locs → b_Mo_findSame_60 K N (l_Mo_findSame_2 K N o n2) (l_Mo_findSame_12 K N (l_Mo_findSame_2 K N o n2) o n12) o v1 v2 w0 w1 w2 h = some res → W p l e rm_Mo_findSame s m [.ref o].toArray below meth c H locs 0 0 (MQ below (fh_Q D classes h0 s.heap.size (none) res) [.ref o].toArray s 0 0 A) (F0 m 60 ls [.int w2, .int w1, va_rf w0]) := by
            intro v1 v2 w0 w1 w2 h H locs ls hl hI hf
            unfold b_Mo_findSame_60 at hf
            obtain ⟨h1, e_h1, hf⟩ := fh_b hf
            refine fh_zast S hE.1 hI 2 rfl e_h1 d_Mo_findSame_60 (fun H locs hI => ?_)
            obtain ⟨x2, e_x2, hf⟩ := fh_b hf
            refine lv_iinc (v := x2) (lv' := [(2, .int x2), (0, va_rf (some o)), (1, .int v1)]) hx hb d_Mo_findSame_61 hl (k := 2) rfl (by rw [fh_qe e_x2]; rfl) (by decide) rfl (fun ls hl => ?_)
            refine lv_goto (tgt := 12) hx hb d_Mo_findSame_64 (by decide) ?_
            exact ih12 v1 x2 h1 _ _ _ (lv_sub hl [1, 2, 0] rfl) hI hf
          have B55 : ∀ (v1 : Int32) (v2 : Int32) (w0 : Option Nat) (w1 : Int32) (h : fh_H) (H : Heap) (locs : List Loc) (ls : Array Slot), lv_has ls 3 [(0, va_rf (some o)), (1, .int v1), (2, .int v2)] → fh_I D classes A s.heap h H locs → b_Mo_findSame_55 K N (l_Mo_findSame_2 K N o n2) (l_Mo_findSame_12 K N (l_Mo_findSame_2 K N o n2) o n12) o v1 v2 w0 w1 h = some res → W p l e rm_Mo_findSame s m [.ref o].toArray below meth c H locs 0 0 (MQ below (fh_Q D classes h0 s.heap.size (none) res) [.ref o].toArray s 0 0 A) (F0 m 55 ls [.int w1, va_rf w0]) := by
            intro v1 v2 w0 w1 h H locs ls hl hI hf
            unfold b_Mo_findSame_55 at hf
            refine lv_iconst (v := 1) hx hb d_Mo_findSame_55 (by decide) ?_
            refine lv_goto (tgt := 60) hx hb d_Mo_findSame_56 (by decide) ?_
            exact B60 v1 v2 w0 w1 1 h _ _ _ (lv_sub hl [0, 1, 2] rfl) hI hf
          intro v1 v2 h H locs ls hl hI hf
          have hf : b_Mo_findSame_12 K N (l_Mo_findSame_2 K N o n2) (l_Mo_findSame_12 K N (l_Mo_findSame_2 K N o n2) o n12) o v1 v2 h = some res := hf
          unfold b_Mo_findSame_12 at hf
          refine lv_iload_n hx hb d_Mo_findSame_12 rfl (lv_at hl 2 rfl) ?_
          refine fh_aload_n S d_Mo_findSame_13 rfl (lv_at hl 0 rfl) ?_
          obtain ⟨x1, e_x1, hf⟩ := fh_b hf
          refine fh_geti S hE.1 hI e_x1 (hc := rfl) (hin := in_6) (by decide) (hts _ k_163) d_Mo_findSame_14 ?_
          refine lv_icmp_ge (tgt := 67) hx hb d_Mo_findSame_17 (by decide) (fun c_17 => ?_) (fun c_17 => ?_)
          · replace hf := fh_t c_17 hf
            obtain ⟨x2, e_x2, hf⟩ := fh_b hf
            refine lv_iinc (v := x2) (lv' := [(1, .int x2), (0, va_rf (some o)), (2, .int v2)]) hx hb d_Mo_findSame_67 hl (k := 1) rfl (by rw [fh_qe e_x2]; rfl) (by decide) rfl (fun ls hl => ?_)
            refine lv_goto (tgt := 2) hx hb d_Mo_findSame_70 (by decide) ?_
            exact ih2 x2 h _ _ _ (lv_sub hl [1, 0] rfl) hI hf
          · replace hf := fh_f c_17 hf
            refine fh_aload_n S d_Mo_findSame_20 rfl (lv_at hl 0 rfl) ?_
            refine lv_iload_n hx hb d_Mo_findSame_21 rfl (lv_at hl 1 rfl) ?_
            refine lv_iload_n hx hb d_Mo_findSame_22 rfl (lv_at hl 2 rfl) ?_
            refine lv_iconst (v := 0) hx hb d_Mo_findSame_23 (by decide) ?_
            refine lv_iconst (v := 0) hx hb d_Mo_findSame_24 (by decide) ?_
            refine lv_iconst (v := 0) hx hb d_Mo_findSame_25 (by decide) ?_
            refine lv_iconst (v := 0) hx hb d_Mo_findSame_26 (by decide) ?_
            obtain ⟨o3, e_o3, hf⟩ := fh_b hf
            obtain ⟨r4, e_r4, hf⟩ := fh_b hf
            refine fh_callV (As := [.int v1, .int v2, .int 0, .int 0, .int 0, .int 0]) (rest := []) S fT_good hE hI e_o3 rfl (c_Mo_setRow e_r4) fy_Mo_setRow fst_Mo_setRow k_184 ⟨rfl, rfl⟩ ⟨Nat.le_of_ble_eq_true rfl, Nat.le_of_ble_eq_true rfl⟩ ⟨Nat.zero_le _, Nat.zero_le _⟩ rfl hl.1 rfl (Nat.le_of_ble_eq_true rfl) d_Mo_findSame_27 (fun H locs hI => ?_)
            refine fh_aload_n S d_Mo_findSame_30 rfl (lv_at hl 0 rfl) ?_
            obtain ⟨x5, e_x5, hf⟩ := fh_b hf
            refine fh_geta S hE.1 hI e_x5 (hc := rfl) (hin := in_6) (by decide) (hts _ k_185) d_Mo_findSame_31 ?_
            refine lv_bipush (v := 10) hx hb d_Mo_findSame_34 (by decide) ?_
            refine lv_iload_n hx hb d_Mo_findSame_36 rfl (lv_at hl 1 rfl) ?_
            refine lv_imul hx hb d_Mo_findSame_37 ?_
            refine lv_iload_n hx hb d_Mo_findSame_38 rfl (lv_at hl 2 rfl) ?_
            refine lv_iadd hx hb d_Mo_findSame_39 ?_
            refine lv_iload_n hx hb d_Mo_findSame_40 rfl (lv_at hl 1 rfl) ?_
            refine lv_iload_n hx hb d_Mo_findSame_41 rfl (lv_at hl 2 rfl) ?_
            refine lv_icmp_eq (tgt := 55) hx hb d_Mo_findSame_42 (by decide) (fun c_42 => ?_) (fun c_42 => ?_)
            · replace hf := fh_t c_42 hf
              exact B55 v1 v2 x5 ((10 * v1) + v2) r4 _ _ _ (lv_sub hl [0, 1, 2] rfl) hI hf
            · replace hf := fh_f c_42 hf
              refine fh_aload_n S d_Mo_findSame_45 rfl (lv_at hl 0 rfl) ?_
              refine lv_iconst (v := 0) hx hb d_Mo_findSame_46 (by decide) ?_
              refine lv_iconst (v := 0) hx hb d_Mo_findSame_47 (by decide) ?_
              refine lv_iconst (v := 0) hx hb d_Mo_findSame_48 (by decide) ?_
              obtain ⟨o6, e_o6, hf⟩ := fh_b hf
              obtain ⟨r7, e_r7, hf⟩ := fh_b hf
              refine fh_callV (As := [.int 0, .int 0, .int 0]) (rest := [.int ((10 * v1) + v2), va_rf x5]) S fT_good hE hI e_o6 rfl (c_Mo_isAlways e_r7) fy_Mo_isAlways fst_Mo_isAlways k_186 ⟨rfl, rfl⟩ ⟨Nat.le_of_ble_eq_true rfl, Nat.le_of_ble_eq_true rfl⟩ ⟨Nat.zero_le _, Nat.zero_le _⟩ rfl hl.1 rfl (Nat.le_trans (fh_cat _) (Nat.le_of_ble_eq_true rfl)) d_Mo_findSame_49 (fun H locs hI => ?_)
              refine lv_if_eq (tgt := 59) hx hb d_Mo_findSame_52 (by decide) (fun c_52 => ?_) (fun c_52 => ?_)
              · replace hf := fh_t c_52 hf
                refine lv_iconst (v := 0) hx hb d_Mo_findSame_59 (by decide) ?_
                exact B60 v1 v2 x5 ((10 * v1) + v2) 0 r7.2 _ _ _ (lv_sub hl [0, 1, 2] rfl) hI hf
              · replace hf := fh_f c_52 hf
                exact B55 v1 v2 x5 ((10 * v1) + v2) r7.2 _ _ _ (lv_sub hl [0, 1, 2] rfl) hI hf
      intro v1 h H locs ls hl hI hf
      have hf : b_Mo_findSame_2 K N (l_Mo_findSame_2 K N o n2) o v1 h = some res := hf
      unfold b_Mo_findSame_2 at hf
      refine lv_iload_n hx hb d_Mo_findSame_2 rfl (lv_at hl 1 rfl) ?_
      refine fh_aload_n S d_Mo_findSame_3 rfl (lv_at hl 0 rfl) ?_
      obtain ⟨x1, e_x1, hf⟩ := fh_b hf
      refine fh_geti S hE.1 hI e_x1 (hc := rfl) (hin := in_6) (by decide) (hts _ k_163) d_Mo_findSame_4 ?_
      refine lv_icmp_ge (tgt := 73) hx hb d_Mo_findSame_7 (by decide) (fun c_7 => ?_) (fun c_7 => ?_)
      · replace hf := fh_t c_7 hf
        obtain rfl := Option.some.inj hf
        exact fh_vret S hr hk hAe hI d_Mo_findSame_73
      · replace hf := fh_f c_7 hf
        refine lv_iconst (v := 0) hx hb d_Mo_findSame_10 (by decide) ?_
        refine lv_istore_n (lv' := [(2, .int 0), (0, va_rf (some o)), (1, .int v1)]) hx hb d_Mo_findSame_11 rfl hl (by decide) rfl (fun ls hl => ?_)
        exact L12 N v1 0 h _ _ _ (lv_sub hl [1, 2, 0] rfl) hI hf
  unfold f_Mo_findSame at hf
  refine lv_iconst (v := 0) hx hb d_Mo_findSame_0 (by decide) ?_
  refine lv_istore_n (lv' := [(1, .int 0), (0, va_rf (some o))]) hx hb d_Mo_findSame_1 rfl hl (by decide) rfl (fun ls hl => ?_)
  exact L2 N 0 h0 _ _ _ (lv_sub hl [1, 0] rfl) hI hf
theorem d_Mo_places_0 : decode c0_Mo_places 0 = .ok (.aload_n 0, 1) := by decide +kernel
theorem d_Mo_places_1 : decode c0_Mo_places 1 = .ok (.invokevirtual 210, 3) := by decide +kernel
theorem d_Mo_places_4 : decode c0_Mo_places 4 = .ok (.iconst 0, 1) := by decide +kernel
theorem d_Mo_places_5 : decode c0_Mo_places 5 = .ok (.istore_n 2, 1) := by decide +kernel
theorem d_Mo_places_6 : decode c0_Mo_places 6 = .ok (.iconst 0, 1) := by decide +kernel
theorem d_Mo_places_7 : decode c0_Mo_places 7 = .ok (.istore_n 3, 1) := by decide +kernel
theorem d_Mo_places_8 : decode c0_Mo_places 8 = .ok (.iload_n 3, 1) := by decide +kernel
theorem d_Mo_places_9 : decode c0_Mo_places 9 = .ok (.aload_n 0, 1) := by decide +kernel
theorem d_Mo_places_10 : decode c0_Mo_places 10 = .ok (.getfield 131, 3) := by decide +kernel
theorem d_Mo_places_13 : decode c0_Mo_places 13 = .ok (.if_icmp .ge 90, 3) := by decide +kernel
theorem d_Mo_places_16 : decode c0_Mo_places 16 = .ok (.iload_n 1, 1) := by decide +kernel
theorem d_Mo_places_17 : decode c0_Mo_places 17 = .ok (.iload_n 3, 1) := by decide +kernel
theorem d_Mo_places_18 : decode c0_Mo_places 18 = .ok (.ishr, 1) := by decide +kernel
theorem d_Mo_places_19 : decode c0_Mo_places 19 = .ok (.iconst 1, 1) := by decide +kernel
theorem d_Mo_places_20 : decode c0_Mo_places 20 = .ok (.iand, 1) := by decide +kernel
theorem d_Mo_places_21 : decode c0_Mo_places 21 = .ok (.iconst 1, 1) := by decide +kernel
theorem d_Mo_places_22 : decode c0_Mo_places 22 = .ok (.if_icmp .ne 7, 3) := by decide +kernel
theorem d_Mo_places_25 : decode c0_Mo_places 25 = .ok (.iconst 1, 1) := by decide +kernel
theorem d_Mo_places_26 : decode c0_Mo_places 26 = .ok (.goto 4, 3) := by decide +kernel
theorem d_Mo_places_29 : decode c0_Mo_places 29 = .ok (.iconst 0, 1) := by decide +kernel
theorem d_Mo_places_30 : decode c0_Mo_places 30 = .ok (.istore 4, 2) := by decide +kernel
theorem d_Mo_places_32 : decode c0_Mo_places 32 = .ok (.iconst 0, 1) := by decide +kernel
theorem d_Mo_places_33 : decode c0_Mo_places 33 = .ok (.istore 5, 2) := by decide +kernel
theorem d_Mo_places_35 : decode c0_Mo_places 35 = .ok (.iload 5, 2) := by decide +kernel
theorem d_Mo_places_37 : decode c0_Mo_places 37 = .ok (.iload_n 3, 1) := by decide +kernel
theorem d_Mo_places_38 : decode c0_Mo_places 38 = .ok (.if_icmp .ge 46, 3) := by decide +kernel
theorem d_Mo_places_41 : decode c0_Mo_places 41 = .ok (.iload 4, 2) := by decide +kernel
theorem d_Mo_places_43 : decode c0_Mo_places 43 = .ok (.ifCond .eq 32, 3) := by decide +kernel
theorem d_Mo_places_46 : decode c0_Mo_places 46 = .ok (.iload_n 1, 1) := by decide +kernel
theorem d_Mo_places_47 : decode c0_Mo_places 47 = .ok (.iload 5, 2) := by decide +kernel
theorem d_Mo_places_49 : decode c0_Mo_places 49 = .ok (.ishr, 1) := by decide +kernel
theorem d_Mo_places_50 : decode c0_Mo_places 50 = .ok (.iconst 1, 1) := by decide +kernel
theorem d_Mo_places_51 : decode c0_Mo_places 51 = .ok (.iand, 1) := by decide +kernel
theorem d_Mo_places_52 : decode c0_Mo_places 52 = .ok (.iconst 1, 1) := by decide +kernel
theorem d_Mo_places_53 : decode c0_Mo_places 53 = .ok (.if_icmp .ne 18, 3) := by decide +kernel
theorem d_Mo_places_56 : decode c0_Mo_places 56 = .ok (.aload_n 0, 1) := by decide +kernel
theorem d_Mo_places_57 : decode c0_Mo_places 57 = .ok (.getfield 36, 3) := by decide +kernel
theorem d_Mo_places_60 : decode c0_Mo_places 60 = .ok (.bipush 10, 2) := by decide +kernel
theorem d_Mo_places_62 : decode c0_Mo_places 62 = .ok (.iload 5, 2) := by decide +kernel
theorem d_Mo_places_64 : decode c0_Mo_places 64 = .ok (.imul, 1) := by decide +kernel
theorem d_Mo_places_65 : decode c0_Mo_places 65 = .ok (.iload_n 3, 1) := by decide +kernel
theorem d_Mo_places_66 : decode c0_Mo_places 66 = .ok (.iadd, 1) := by decide +kernel
theorem d_Mo_places_67 : decode c0_Mo_places 67 = .ok (.baload, 1) := by decide +kernel
theorem d_Mo_places_68 : decode c0_Mo_places 68 = .ok (.ifCond .ne 7, 3) := by decide +kernel
theorem d_Mo_places_71 : decode c0_Mo_places 71 = .ok (.iconst 1, 1) := by decide +kernel
theorem d_Mo_places_72 : decode c0_Mo_places 72 = .ok (.goto 4, 3) := by decide +kernel
theorem d_Mo_places_75 : decode c0_Mo_places 75 = .ok (.iconst 0, 1) := by decide +kernel
theorem d_Mo_places_76 : decode c0_Mo_places 76 = .ok (.istore 4, 2) := by decide +kernel
theorem d_Mo_places_78 : decode c0_Mo_places 78 = .ok (.iinc 5 1, 3) := by decide +kernel
theorem d_Mo_places_81 : decode c0_Mo_places 81 = .ok (.goto (-46), 3) := by decide +kernel
theorem d_Mo_places_84 : decode c0_Mo_places 84 = .ok (.iload 4, 2) := by decide +kernel
theorem d_Mo_places_86 : decode c0_Mo_places 86 = .ok (.ifCond .eq 9, 3) := by decide +kernel
theorem d_Mo_places_89 : decode c0_Mo_places 89 = .ok (.iload_n 2, 1) := by decide +kernel
theorem d_Mo_places_90 : decode c0_Mo_places 90 = .ok (.iconst 1, 1) := by decide +kernel
theorem d_Mo_places_91 : decode c0_Mo_places 91 = .ok (.iadd, 1) := by decide +kernel
theorem d_Mo_places_92 : decode c0_Mo_places 92 = .ok (.goto 4, 3) := by decide +kernel
theorem d_Mo_places_95 : decode c0_Mo_places 95 = .ok (.iload_n 2, 1) := by decide +kernel
theorem d_Mo_places_96 : decode c0_Mo_places 96 = .ok (.istore_n 2, 1) := by decide +kernel
theorem d_Mo_places_97 : decode c0_Mo_places 97 = .ok (.iinc 3 1, 3) := by decide +kernel
theorem d_Mo_places_100 : decode c0_Mo_places 100 = .ok (.goto (-92), 3) := by decide +kernel
theorem d_Mo_places_103 : decode c0_Mo_places 103 = .ok (.iload_n 2, 1) := by decide +kernel
theorem d_Mo_places_104 : decode c0_Mo_places 104 = .ok (.ireturn, 1) := by decide +kernel
def b_Mo_places_96 (K : Nat → ClassId) (N : Nat) (k8 : Int32 → Int32 → Int32 → fh_H → Option (Int32 × fh_H)) (o : Nat) (v1 : Int32) (v3 : Int32) (w0 : Int32) (h : fh_H) : Option (Int32 × fh_H) :=
  (some (v3 + 1)).bind fun x1 => k8 v1 w0 x1 h
def b_Mo_places_76 (K : Nat → ClassId) (N : Nat) (k8 : Int32 → Int32 → Int32 → fh_H → Option (Int32 × fh_H)) (k35 : Int32 → Int32 → Int32 → Int32 → Int32 → fh_H → Option (Int32 × fh_H)) (o : Nat) (v1 : Int32) (v2 : Int32) (v3 : Int32) (v5 : Int32) (w0 : Int32) (h : fh_H) : Option (Int32 × fh_H) :=
  (some (v5 + 1)).bind fun x1 => k35 v1 v2 v3 w0 x1 h
def b_Mo_places_71 (K : Nat → ClassId) (N : Nat) (k8 : Int32 → Int32 → Int32 → fh_H → Option (Int32 × fh_H)) (k35 : Int32 → Int32 → Int32 → Int32 → Int32 → fh_H → Option (Int32 × fh_H)) (o : Nat) (v1 : Int32) (v2 : Int32) (v3 : Int32) (v5 : Int32) (h : fh_H) : Option (Int32 × fh_H) :=
  b_Mo_places_76 K N k8 k35 o v1 v2 v3 v5 1 h
def b_Mo_places_75 (K : Nat → ClassId) (N : Nat) (k8 : Int32 → Int32 → Int32 → fh_H → Option (Int32 × fh_H)) (k35 : Int32 → Int32 → Int32 → Int32 → Int32 → fh_H → Option (Int32 × fh_H)) (o : Nat) (v1 : Int32) (v2 : Int32) (v3 : Int32) (v5 : Int32) (h : fh_H) : Option (Int32 × fh_H) :=
  b_Mo_places_76 K N k8 k35 o v1 v2 v3 v5 0 h
def b_Mo_places_35 (K : Nat → ClassId) (N : Nat) (k8 : Int32 → Int32 → Int32 → fh_H → Option (Int32 × fh_H)) (k35 : Int32 → Int32 → Int32 → Int32 → Int32 → fh_H → Option (Int32 × fh_H)) (o : Nat) (v1 : Int32) (v2 : Int32) (v3 : Int32) (v4 : Int32) (v5 : Int32) (h : fh_H) : Option (Int32 × fh_H) :=
  if v3 ≤ v5 then (if v4 = 0 then (b_Mo_places_96 K N k8 o v1 v3 v2 h) else (b_Mo_places_96 K N k8 o v1 v3 (v2 + 1) h)) else (if v4 = 0 then (b_Mo_places_75 K N k8 k35 o v1 v2 v3 v5 h) else (if ((v1 >>> (v5 &&& 31)) &&& 1) = 1 then ((fg_a h (some o) 6 16).bind fun x1 => (fa_i (K 2) h x1 ((10 * v5) + v3)).bind fun x2 => if x2 = 0 then (b_Mo_places_71 K N k8 k35 o v1 v2 v3 v5 h) else (b_Mo_places_75 K N k8 k35 o v1 v2 v3 v5 h)) else (b_Mo_places_71 K N k8 k35 o v1 v2 v3 v5 h)))
def l_Mo_places_35 (K : Nat → ClassId) (N : Nat) (k8 : Int32 → Int32 → Int32 → fh_H → Option (Int32 × fh_H)) (o : Nat) : Nat → Int32 → Int32 → Int32 → Int32 → Int32 → fh_H → Option (Int32 × fh_H)
  | 0, _, _, _, _, _, _ => none
  | n + 1, v1, v2, v3, v4, v5, h => b_Mo_places_35 K N k8 (l_Mo_places_35 K N k8 o n) o v1 v2 v3 v4 v5 h
def b_Mo_places_30 (K : Nat → ClassId) (N : Nat) (k8 : Int32 → Int32 → Int32 → fh_H → Option (Int32 × fh_H)) (o : Nat) (v1 : Int32) (v2 : Int32) (v3 : Int32) (w0 : Int32) (h : fh_H) : Option (Int32 × fh_H) :=
  l_Mo_places_35 K N k8 o N v1 v2 v3 w0 0 h
def b_Mo_places_8 (K : Nat → ClassId) (N : Nat) (k8 : Int32 → Int32 → Int32 → fh_H → Option (Int32 × fh_H)) (o : Nat) (v1 : Int32) (v2 : Int32) (v3 : Int32) (h : fh_H) : Option (Int32 × fh_H) :=
  (fg_i h (some o) 6 0).bind fun x1 => if x1 ≤ v3 then (some (v2, h)) else (if ((v1 >>> (v3 &&& 31)) &&& 1) = 1 then (b_Mo_places_30 K N k8 o v1 v2 v3 1 h) else (b_Mo_places_30 K N k8 o v1 v2 v3 0 h))
def l_Mo_places_8 (K : Nat → ClassId) (N : Nat) (o : Nat) : Nat → Int32 → Int32 → Int32 → fh_H → Option (Int32 × fh_H)
  | 0, _, _, _, _ => none
  | n + 1, v1, v2, v3, h => b_Mo_places_8 K N (l_Mo_places_8 K N o n) o v1 v2 v3 h
def f_Mo_places (K : Nat → ClassId) (N : Nat) (o : Nat) (a1 : Int32) (h0 : fh_H) : Option (Int32 × fh_H) :=
  (fg_o h0 (some o) 6).bind fun o1 => (f_Mo_findSame K N o1 h0).bind fun r2 => l_Mo_places_8 K N o N a1 0 0 r2
set_option maxHeartbeats 4000000 in
set_option maxRecDepth 100000 in
theorem c_Mo_places {l : Launch} {D : va_G} {K : Nat → ClassId} {t : Nat → Nat} {N : Nat} {o : Nat} {a1 : Int32} {h0 : fh_H} {res : Int32 × fh_H} (hf : f_Mo_places K N o a1 h0 = some res) : fC l D K t y_Mo_places c0_Mo_places 6 (some .int) rm_Mo_places [.ref o, .int a1] h0 (some (.int res.1)) res.2 := by
  refine fh_body (by decide) (Nat.le_of_ble_eq_true rfl) ?_
  intro p e s m below meth c A ls S hr hk hnm hE hAe hI hl
  obtain ⟨hx, hb, hml, hown, hts⟩ := id S
  have hl : lv_has ls 6 [(0, va_rf (some o)), (1, .int a1)] := hl
  have L8 : ∀ (n8 : Nat) (v1 : Int32) (v2 : Int32) (v3 : Int32) (h : fh_H) (H : Heap) (locs : List Loc) (ls : Array Slot), lv_has ls 6 [(0, va_rf (some o)), (1, .int v1), (2, .int v2), (3, .int v3)] → fh_I D classes A s.heap h H locs → l_Mo_places_8 K N o n8 v1 v2 v3 h = some res → W p l e rm_Mo_places s m [.ref o, .int a1].toArray below meth c H locs 0 0 (MQ below (fh_Q D classes h0 s.heap.size (some (.int res.1)) res.2) [.ref o, .int a1].toArray s 0 0 A) (F0 m 8 ls []) := by
    intro n8
    induction n8 with
    | zero =>
      intro v1 v2 v3 h H locs ls hl hI hf
      exact fh_no hf
    | succ n8 ih8 =>
      have B96 : ∀ (v1 : Int32) (v3 : Int32) (w0 : Int32) (h : fh_H) (H : Heap) (locs : List Loc) (ls : Array Slot), lv_has ls 6 [(0, va_rf (some o)), (1, .int v1), (3, .int v3)] → fh_I D classes A s.heap h H locs → b_Mo_places_96 K N (l_Mo_places_8 K N o n8) o v1 v3 w0 h = some res → W p l e rm_Mo_places s m [.ref o, .int a1].toArray below meth c H locs 0 0 (MQ below (fh_Q D classes h0 s.heap.size (some (.int res.1)) res.2) [.ref o, .int a1].toArray s 0 0 A) (F0 m 96 ls [.int w0]) := by
        intro v1 v3 w0 h H locs ls hl hI hf
        unfold b_Mo_places_96 at hf
        refine lv_istore_n (lv' := [(2, .int w0), (0, va_rf (some o)), (1, .int v1), (3, .int v3)]) hx hb d_Mo_places_96 rfl hl (by decide) rfl (fun ls hl => ?_)
        obtain ⟨x1, e_x1, hf⟩ := fh_b hf
        refine lv_iinc (v := x1) (lv' := [(3, .int x1), (2, .int w0), (0, va_rf (some o)), (1, .int v1)]) hx hb d_Mo_places_97 hl (k := 3) rfl (by rw [fh_qe e_x1]; rfl) (by decide) rfl (fun ls hl => ?_)
        refine lv_goto (tgt := 8) hx hb d_Mo_places_100 (by decide) ?_
        exact ih8 v1 w0 x1 h _ _ _ (lv_sub hl [2, 3, 1, 0] rfl) hI hf
      have L35 : ∀ (n35 : Nat) (v1 : Int32) (v2 : Int32) (v3 : Int32) (v4 : Int32) (v5 : Int32) (h : fh_H) (H : Heap) (locs : List Loc) (ls : Array Slot), lv_has ls 6 [(0, va_rf (some o)), (1, .int v1), (2, .int v2), (3, .int v3), (4, .int v4), (5, .int v5)] → fh_I D classes A s.heap h H locs → l_Mo_places_35 K N (l_Mo_places_8 K N o n8) o n35 v1 v2 v3 v4 v5 h = some res → W p l e rm_Mo_places s m [.ref o, .int a1].toArray below meth c H locs 0 0 (MQ below (fh_Q D classes h0 s.heap.size (some (.int res.1)) res.2) [.ref o, .int a1].toArray s 0 0 A) (F0 m 35 ls []) := by
        intro n35
        induction n35 with
        | zero =>
          intro v1 v2 v3 v4 v5 h H locs ls hl hI hf
          exact fh_no hf
        | succ n35 ih35 =>
          have B76 : ∀ (v1 : Int32) (v2 : Int32) (v3 : Int32) (v5 : Int32) (w0 : Int32) (h : fh_H) (H : Heap) (locs : List Loc) (ls : Array Slot), lv_has ls 6 [(0, va_rf (some o)), (1, .int v1), (2, .int v2), (3, .int v3), (5, .int v5)] → fh_I D classes A s.heap h H locs → b_Mo_places_76 K N (l_Mo_places_8 K N o n8) (l_Mo_places_35 K N (l_Mo_places_8 K N o n8) o n35) o v1 v2 v3 v5 w0 h = some res → W p l e rm_Mo_places s m [.ref o, .int a1].toArray below meth c H locs 0 0 (MQ below (fh_Q D classes h0 s.heap.size (some (.int res.1)) res.2) [.ref o, .int a1].toArray s 0 0 A) (F0 m 76 ls [.int w0]) := by
            intro v1 v2 v3 v5 w0 h H locs ls hl hI hf
            unfold b_Mo_places_76 at hf
            refine lv_istore (lv' := [(4, .int w0), (0, va_rf (some o)), (1, .int v1), (2, .int v2), (3, .int v3), (5, .int v5)]) hx hb d_Mo_places_76 hl (by decide) rfl (fun ls hl => ?_)
            obtain ⟨x1, e_x1, hf⟩ := fh_b hf
            refine lv_iinc (v := x1) (lv' := [(5, .int x1), (4, .int w0), (0, va_rf (some o)), (1, .int v1), (2, .int v2), (3, .int v3)]) hx hb d_Mo_places_78 hl (k := 5) rfl (by rw [fh_qe e_x1]; rfl) (by decide) rfl (fun ls hl => ?_)
            refine lv_goto (tgt := 35) hx hb d_Mo_places_81 (by decide) ?_
            exact ih35 v1 v2 v3 w0 x1 h _ _ _ (lv_sub hl [2, 3, 4, 5, 1, 0] rfl) hI hf
          have B71 : ∀ (v1 : Int32) (v2 : Int32) (v3 : Int32) (v5 : Int32) (h : fh_H) (H : Heap) (locs : List Loc) (ls : Array Slot), lv_has ls 6 [(0, va_rf (some o)), (1, .int v1), (2, .int v2), (3, .int v3), (5, .int v5)] → fh_I D classes A s.heap h H locs → b_Mo_places_71 K N (l_Mo_places_8 K N o n8) (l_Mo_places_35 K N (l_Mo_places_8 K N o n8) o n35) o v1 v2 v3 v5 h = some res → W p l e rm_Mo_places s m [.ref o, .int a1].toArray below meth c H locs 0 0 (MQ below (fh_Q D classes h0 s.heap.size (some (.int res.1)) res.2) [.ref o, .int a1].toArray s 0 0 A) (F0 m 71 ls []) := by
            intro v1 v2 v3 v5 h H locs ls hl hI hf
            unfold b_Mo_places_71 at hf
            refine lv_iconst (v := 1) hx hb d_Mo_places_71 (by decide) ?_
            refine lv_goto (tgt := 76) hx hb d_Mo_places_72 (by decide) ?_
            exact B76 v1 v2 v3 v5 1 h _ _ _ (lv_sub hl [0, 1, 2, 3, 4] rfl) hI hf
          have B75 : ∀ (v1 : Int32) (v2 : Int32) (v3 : Int32) (v5 : Int32) (h : fh_H) (H : Heap) (locs : List Loc) (ls : Array Slot), lv_has ls 6 [(0, va_rf (some o)), (1, .int v1), (2, .int v2), (3, .int v3), (5, .int v5)] → fh_I D classes A s.heap h H locs → b_Mo_places_75 K N (l_Mo_places_8 K N o n8) (l_Mo_places_35 K N (l_Mo_places_8 K N o n8) o n35) o v1 v2 v3 v5 h = some res → W p l e rm_Mo_places s m [.ref o, .int a1].toArray below meth c H locs 0 0 (MQ below (fh_Q D classes h0 s.heap.size (some (.int res.1)) res.2) [.ref o, .int a1].toArray s 0 0 A) (F0 m 75 ls []) := by
            intro v1 v2 v3 v5 h H locs ls hl hI hf
            unfold b_Mo_places_75 at hf
            refine lv_iconst (v := 0) hx hb d_Mo_places_75 (by decide) ?_
            exact B76 v1 v2 v3 v5 0 h _ _ _ (lv_sub hl [0, 1, 2, 3, 4] rfl) hI hf
          intro v1 v2 v3 v4 v5 h H locs ls hl hI hf
          have hf : b_Mo_places_35 K N (l_Mo_places_8 K N o n8) (l_Mo_places_35 K N (l_Mo_places_8 K N o n8) o n35) o v1 v2 v3 v4 v5 h = some res := hf
          unfold b_Mo_places_35 at hf
          refine lv_iload hx hb d_Mo_places_35 (lv_at hl 5 rfl) ?_
          refine lv_iload_n hx hb d_Mo_places_37 rfl (lv_at hl 3 rfl) ?_
          refine lv_icmp_ge (tgt := 84) hx hb d_Mo_places_38 (by decide) (fun c_38 => ?_) (fun c_38 => ?_)
          · replace hf := fh_t c_38 hf
            refine lv_iload hx hb d_Mo_places_84 (lv_at hl 4 rfl) ?_
            refine lv_if_eq (tgt := 95) hx hb d_Mo_places_86 (by decide) (fun c_86 => ?_) (fun c_86 => ?_)
            · replace hf := fh_t c_86 hf
              refine lv_iload_n hx hb d_Mo_places_95 rfl (lv_at hl 2 rfl) ?_
              exact B96 v1 v3 v2 h _ _ _ (lv_sub hl [0, 1, 3] rfl) hI hf
            · replace hf := fh_f c_86 hf
              refine lv_iload_n hx hb d_Mo_places_89 rfl (lv_at hl 2 rfl) ?_
              refine lv_iconst (v := 1) hx hb d_Mo_places_90 (by decide) ?_
              refine lv_iadd hx hb d_Mo_places_91 ?_
              refine lv_goto (tgt := 96) hx hb d_Mo_places_92 (by decide) ?_
              exact B96 v1 v3 (v2 + 1) h _ _ _ (lv_sub hl [0, 1, 3] rfl) hI hf
          · replace hf := fh_f c_38 hf
            refine lv_iload hx hb d_Mo_places_41 (lv_at hl 4 rfl) ?_
            refine lv_if_eq (tgt := 75) hx hb d_Mo_places_43 (by decide) (fun c_43 => ?_) (fun c_43 => ?_)
            · replace hf := fh_t c_43 hf
              exact B75 v1 v2 v3 v5 h _ _ _ (lv_sub hl [0, 1, 2, 3, 5] rfl) hI hf
            · replace hf := fh_f c_43 hf
              refine lv_iload_n hx hb d_Mo_places_46 rfl (lv_at hl 1 rfl) ?_
              refine lv_iload hx hb d_Mo_places_47 (lv_at hl 5 rfl) ?_
              refine lv_ishr hx hb d_Mo_places_49 ?_
              refine lv_iconst (v := 1) hx hb d_Mo_places_50 (by decide) ?_
              refine lv_iand hx hb d_Mo_places_51 ?_
              refine lv_iconst (v := 1) hx hb d_Mo_places_52 (by decide) ?_
              refine lv_icmp_ne (tgt := 71) hx hb d_Mo_places_53 (by decide) (fun c_53 => ?_) (fun c_53 => ?_)
              · replace hf := fh_f c_53 hf
                exact B71 v1 v2 v3 v5 h _ _ _ (lv_sub hl [0, 1, 2, 3, 5] rfl) hI hf
              · replace hf := fh_t c_53 hf
                refine fh_aload_n S d_Mo_places_56 rfl (lv_at hl 0 rfl) ?_
                obtain ⟨x1, e_x1, hf⟩ := fh_b hf
                refine fh_geta S hE.1 hI e_x1 (hc := rfl) (hin := in_6) (by decide) (hts _ k_185) d_Mo_places_57 ?_
                refine lv_bipush (v := 10) hx hb d_Mo_places_60 (by decide) ?_
                refine lv_iload hx hb d_Mo_places_62 (lv_at hl 5 rfl) ?_
                refine lv_imul hx hb d_Mo_places_64 ?_
                refine lv_iload_n hx hb d_Mo_places_65 rfl (lv_at hl 3 rfl) ?_
                refine lv_iadd hx hb d_Mo_places_66 ?_
                obtain ⟨x2, e_x2, hf⟩ := fh_b hf
                refine fh_zald S hE.1 hI 2 rfl e_x2 d_Mo_places_67 ?_
                refine lv_if_ne (tgt := 75) hx hb d_Mo_places_68 (by decide) (fun c_68 => ?_) (fun c_68 => ?_)
                · replace hf := fh_f c_68 hf
                  exact B75 v1 v2 v3 v5 h _ _ _ (lv_sub hl [0, 1, 2, 3, 5] rfl) hI hf
                · replace hf := fh_t c_68 hf
                  exact B71 v1 v2 v3 v5 h _ _ _ (lv_sub hl [0, 1, 2, 3, 5] rfl) hI hf
      have B30 : ∀ (v1 : Int32) (v2 : Int32) (v3 : Int32) (w0 : Int32) (h : fh_H) (H : Heap) (locs : List Loc) (ls : Array Slot), lv_has ls 6 [(0, va_rf (some o)), (1, .int v1), (2, .int v2), (3, .int v3)] → fh_I D classes A s.heap h H locs → b_Mo_places_30 K N (l_Mo_places_8 K N o n8) o v1 v2 v3 w0 h = some res → W p l e rm_Mo_places s m [.ref o, .int a1].toArray below meth c H locs 0 0 (MQ below (fh_Q D classes h0 s.heap.size (some (.int res.1)) res.2) [.ref o, .int a1].toArray s 0 0 A) (F0 m 30 ls [.int w0]) := by
        intro v1 v2 v3 w0 h H locs ls hl hI hf
        unfold b_Mo_places_30 at hf
        refine lv_istore (lv' := [(4, .int w0), (0, va_rf (some o)), (1, .int v1), (2, .int v2), (3, .int v3)]) hx hb d_Mo_places_30 hl (by decide) rfl (fun ls hl => ?_)
        refine lv_iconst (v := 0) hx hb d_Mo_places_32 (by decide) ?_
        refine lv_istore (lv' := [(5, .int 0), (4, .int w0), (0, va_rf (some o)), (1, .int v1), (2, .int v2), (3, .int v3)]) hx hb d_Mo_places_33 hl (by decide) rfl (fun ls hl => ?_)
        exact L35 N v1 v2 v3 w0 0 h _ _ _ (lv_sub hl [2, 3, 4, 5, 1, 0] rfl) hI hf
      intro v1 v2 v3 h H locs ls hl hI hf
      have hf : b_Mo_places_8 K N (l_Mo_places_8 K N o n8) o v1 v2 v3 h = some res := hf
      unfold b_Mo_places_8 at hf
      refine lv_iload_n hx hb d_Mo_places_8 rfl (lv_at hl 3 rfl) ?_
      refine fh_aload_n S d_Mo_places_9 rfl (lv_at hl 0 rfl) ?_
      obtain ⟨x1, e_x1, hf⟩ := fh_b hf
      refine fh_geti S hE.1 hI e_x1 (hc := rfl) (hin := in_6) (by decide) (hts _ k_163) d_Mo_places_10 ?_
      refine lv_icmp_ge (tgt := 103) hx hb d_Mo_places_13 (by decide) (fun c_13 => ?_) (fun c_13 => ?_)
      · replace hf := fh_t c_13 hf
        refine lv_iload_n hx hb d_Mo_places_103 rfl (lv_at hl 2 rfl) ?_
        obtain rfl := Option.some.inj hf
        exact fh_iret S hr hk rfl hAe hI d_Mo_places_104
      · replace hf := fh_f c_13 hf
        refine lv_iload_n hx hb d_Mo_places_16 rfl (lv_at hl 1 rfl) ?_
        refine lv_iload_n hx hb d_Mo_places_17 rfl (lv_at hl 3 rfl) ?_
        refine lv_ishr hx hb d_Mo_places_18 ?_
        refine lv_iconst (v := 1) hx hb d_Mo_places_19 (by decide) ?_
        refine lv_iand hx hb d_Mo_places_20 ?_
        refine lv_iconst (v := 1) hx hb d_Mo_places_21 (by decide) ?_
        refine lv_icmp_ne (tgt := 29) hx hb d_Mo_places_22 (by decide) (fun c_22 => ?_) (fun c_22 => ?_)
        · replace hf := fh_f c_22 hf
          refine lv_iconst (v := 0) hx hb d_Mo_places_29 (by decide) ?_
          exact B30 v1 v2 v3 0 h _ _ _ (lv_sub hl [0, 1, 2, 3] rfl) hI hf
        · replace hf := fh_t c_22 hf
          refine lv_iconst (v := 1) hx hb d_Mo_places_25 (by decide) ?_
          refine lv_goto (tgt := 30) hx hb d_Mo_places_26 (by decide) ?_
          exact B30 v1 v2 v3 1 h _ _ _ (lv_sub hl [0, 1, 2, 3] rfl) hI hf
  unfold f_Mo_places at hf
  refine fh_aload_n S d_Mo_places_0 rfl (lv_at hl 0 rfl) ?_
  obtain ⟨o1, e_o1, hf⟩ := fh_b hf
  obtain ⟨r2, e_r2, hf⟩ := fh_b hf
  refine fh_callV (As := []) (rest := []) S fT_good hE hI e_o1 rfl (c_Mo_findSame e_r2) fy_Mo_findSame fst_Mo_findSame k_187 ⟨rfl, rfl⟩ ⟨Nat.le_of_ble_eq_true rfl, Nat.le_of_ble_eq_true rfl⟩ ⟨Nat.zero_le _, Nat.zero_le _⟩ rfl hl.1 rfl (Nat.le_of_ble_eq_true rfl) d_Mo_places_1 (fun H locs hI => ?_)
  refine lv_iconst (v := 0) hx hb d_Mo_places_4 (by decide) ?_
  refine lv_istore_n (lv' := [(2, .int 0), (0, va_rf (some o)), (1, .int a1)]) hx hb d_Mo_places_5 rfl hl (by decide) rfl (fun ls hl => ?_)
  refine lv_iconst (v := 0) hx hb d_Mo_places_6 (by decide) ?_
  refine lv_istore_n (lv' := [(3, .int 0), (2, .int 0), (0, va_rf (some o)), (1, .int a1)]) hx hb d_Mo_places_7 rfl hl (by decide) rfl (fun ls hl => ?_)
  exact L8 N a1 0 0 r2 _ _ _ (lv_sub hl [2, 3, 1, 0] rfl) hI hf
theorem d_Mo_count_0 : decode c0_Mo_count 0 = .ok (.iload_n 1, 1) := by decide +kernel
theorem d_Mo_count_1 : decode c0_Mo_count 1 = .ok (.iconst 0, 1) := by decide +kernel
theorem d_Mo_count_2 : decode c0_Mo_count 2 = .ok (.iconst 4, 1) := by decide +kernel
theorem d_Mo_count_3 : decode c0_Mo_count 3 = .ok (.invokestatic 145, 3) := by decide +kernel
theorem d_Mo_count_6 : decode c0_Mo_count 6 = .ok (.ifCond .ne 6, 3) := by decide +kernel
theorem d_Mo_count_9 : decode c0_Mo_count 9 = .ok (.bipush (-2), 2) := by decide +kernel
theorem d_Mo_count_11 : decode c0_Mo_count 11 = .ok (.ireturn, 1) := by decide +kernel
theorem d_Mo_count_12 : decode c0_Mo_count 12 = .ok (.iload_n 1, 1) := by decide +kernel
theorem d_Mo_count_13 : decode c0_Mo_count 13 = .ok (.ifCond .ne 10, 3) := by decide +kernel
theorem d_Mo_count_16 : decode c0_Mo_count 16 = .ok (.aload_n 0, 1) := by decide +kernel
theorem d_Mo_count_17 : decode c0_Mo_count 17 = .ok (.getfield 131, 3) := by decide +kernel
theorem d_Mo_count_20 : decode c0_Mo_count 20 = .ok (.goto 51, 3) := by decide +kernel
theorem d_Mo_count_23 : decode c0_Mo_count 23 = .ok (.iload_n 1, 1) := by decide +kernel
theorem d_Mo_count_24 : decode c0_Mo_count 24 = .ok (.iconst 1, 1) := by decide +kernel
theorem d_Mo_count_25 : decode c0_Mo_count 25 = .ok (.if_icmp .ne 10, 3) := by decide +kernel
theorem d_Mo_count_28 : decode c0_Mo_count 28 = .ok (.aload_n 0, 1) := by decide +kernel
theorem d_Mo_count_29 : decode c0_Mo_count 29 = .ok (.getfield 20, 3) := by decide +kernel
theorem d_Mo_count_32 : decode c0_Mo_count 32 = .ok (.goto 39, 3) := by decide +kernel
theorem d_Mo_count_35 : decode c0_Mo_count 35 = .ok (.iload_n 1, 1) := by decide +kernel
theorem d_Mo_count_36 : decode c0_Mo_count 36 = .ok (.iconst 2, 1) := by decide +kernel
theorem d_Mo_count_37 : decode c0_Mo_count 37 = .ok (.if_icmp .ne 10, 3) := by decide +kernel
theorem d_Mo_count_40 : decode c0_Mo_count 40 = .ok (.aload_n 0, 1) := by decide +kernel
theorem d_Mo_count_41 : decode c0_Mo_count 41 = .ok (.invokevirtual 162, 3) := by decide +kernel
theorem d_Mo_count_44 : decode c0_Mo_count 44 = .ok (.goto 27, 3) := by decide +kernel
theorem d_Mo_count_47 : decode c0_Mo_count 47 = .ok (.iload_n 1, 1) := by decide +kernel
theorem d_Mo_count_48 : decode c0_Mo_count 48 = .ok (.iconst 3, 1) := by decide +kernel
theorem d_Mo_count_49 : decode c0_Mo_count 49 = .ok (.if_icmp .ne 10, 3) := by decide +kernel
theorem d_Mo_count_52 : decode c0_Mo_count 52 = .ok (.aload_n 0, 1) := by decide +kernel
theorem d_Mo_count_53 : decode c0_Mo_count 53 = .ok (.getfield 16, 3) := by decide +kernel
theorem d_Mo_count_56 : decode c0_Mo_count 56 = .ok (.goto 15, 3) := by decide +kernel
theorem d_Mo_count_59 : decode c0_Mo_count 59 = .ok (.aload_n 0, 1) := by decide +kernel
theorem d_Mo_count_60 : decode c0_Mo_count 60 = .ok (.iconst 1, 1) := by decide +kernel
theorem d_Mo_count_61 : decode c0_Mo_count 61 = .ok (.aload_n 0, 1) := by decide +kernel
theorem d_Mo_count_62 : decode c0_Mo_count 62 = .ok (.getfield 131, 3) := by decide +kernel
theorem d_Mo_count_65 : decode c0_Mo_count 65 = .ok (.ishl, 1) := by decide +kernel
theorem d_Mo_count_66 : decode c0_Mo_count 66 = .ok (.iconst 1, 1) := by decide +kernel
theorem d_Mo_count_67 : decode c0_Mo_count 67 = .ok (.isub, 1) := by decide +kernel
theorem d_Mo_count_68 : decode c0_Mo_count 68 = .ok (.invokevirtual 166, 3) := by decide +kernel
theorem d_Mo_count_71 : decode c0_Mo_count 71 = .ok (.ireturn, 1) := by decide +kernel
def f_Mo_count (K : Nat → ClassId) (N : Nat) (o : Nat) (a1 : Int32) (h0 : fh_H) : Option (Int32 × fh_H) :=
  (f_Mo_isIn K N a1 0 4 h0).bind fun r1 => if r1.1 = 0 then (some ((-2), r1.2)) else (if a1 = 0 then ((fg_i r1.2 (some o) 6 0).bind fun x9 => some (x9, r1.2)) else (if a1 = 1 then ((fg_i r1.2 (some o) 6 4).bind fun x8 => some (x8, r1.2)) else (if a1 = 2 then ((fg_o r1.2 (some o) 6).bind fun o6 => (f_Mo_standing K N o6 r1.2).bind fun r7 => some (r7.1, r7.2)) else (if a1 = 3 then ((fg_i r1.2 (some o) 6 3).bind fun x5 => some (x5, r1.2)) else ((fg_i r1.2 (some o) 6 0).bind fun x2 => (fg_o r1.2 (some o) 6).bind fun o3 => (f_Mo_places K N o3 (((1 : Int32) <<< (x2 &&& 31)) - 1) r1.2).bind fun r4 => some (r4.1, r4.2))))))
set_option maxHeartbeats 4000000 in
set_option maxRecDepth 100000 in
theorem c_Mo_count {l : Launch} {D : va_G} {K : Nat → ClassId} {t : Nat → Nat} {N : Nat} {o : Nat} {a1 : Int32} {h0 : fh_H} {res : Int32 × fh_H} (hf : f_Mo_count K N o a1 h0 = some res) : fC l D K t y_Mo_count c0_Mo_count 2 (some .int) rm_Mo_count [.ref o, .int a1] h0 (some (.int res.1)) res.2 := by
  refine fh_body (by decide) (Nat.le_of_ble_eq_true rfl) ?_
  intro p e s m below meth c A ls S hr hk hnm hE hAe hI hl
  obtain ⟨hx, hb, hml, hown, hts⟩ := id S
  have hl : lv_has ls 2 [(0, va_rf (some o)), (1, .int a1)] := hl
  unfold f_Mo_count at hf
  refine lv_iload_n hx hb d_Mo_count_0 rfl (lv_at hl 1 rfl) ?_
  refine lv_iconst (v := 0) hx hb d_Mo_count_1 (by decide) ?_
  refine lv_iconst (v := 4) hx hb d_Mo_count_2 (by decide) ?_
  obtain ⟨r1, e_r1, hf⟩ := fh_b hf
  refine fh_callS (As := [.int a1, .int 0, .int 4]) (rest := []) S fT_good hE hI (c_Mo_isIn e_r1) fy_Mo_isIn fst_Mo_isIn k_172 ⟨rfl, rfl⟩ ⟨Nat.le_of_ble_eq_true rfl, Nat.le_of_ble_eq_true rfl⟩ ⟨Nat.zero_le _, Nat.zero_le _⟩ rfl hl.1 rfl (Nat.le_of_ble_eq_true rfl) d_Mo_count_3 (fun H locs hI => ?_)
  refine lv_if_ne (tgt := 12) hx hb d_Mo_count_6 (by decide) (fun c_6 => ?_) (fun c_6 => ?_)
  · replace hf := fh_f c_6 hf
    refine lv_iload_n hx hb d_Mo_count_12 rfl (lv_at hl 1 rfl) ?_
    refine lv_if_ne (tgt := 23) hx hb d_Mo_count_13 (by decide) (fun c_13 => ?_) (fun c_13 => ?_)
    · replace hf := fh_f c_13 hf
      refine lv_iload_n hx hb d_Mo_count_23 rfl (lv_at hl 1 rfl) ?_
      refine lv_iconst (v := 1) hx hb d_Mo_count_24 (by decide) ?_
      refine lv_icmp_ne (tgt := 35) hx hb d_Mo_count_25 (by decide) (fun c_25 => ?_) (fun c_25 => ?_)
      · replace hf := fh_f c_25 hf
        refine lv_iload_n hx hb d_Mo_count_35 rfl (lv_at hl 1 rfl) ?_
        refine lv_iconst (v := 2) hx hb d_Mo_count_36 (by decide) ?_
        refine lv_icmp_ne (tgt := 47) hx hb d_Mo_count_37 (by decide) (fun c_37 => ?_) (fun c_37 => ?_)
        · replace hf := fh_f c_37 hf
          refine lv_iload_n hx hb d_Mo_count_47 rfl (lv_at hl 1 rfl) ?_
          refine lv_iconst (v := 3) hx hb d_Mo_count_48 (by decide) ?_
          refine lv_icmp_ne (tgt := 59) hx hb d_Mo_count_49 (by decide) (fun c_49 => ?_) (fun c_49 => ?_)
          · replace hf := fh_f c_49 hf
            refine fh_aload_n S d_Mo_count_59 rfl (lv_at hl 0 rfl) ?_
            refine lv_iconst (v := 1) hx hb d_Mo_count_60 (by decide) ?_
            refine fh_aload_n S d_Mo_count_61 rfl (lv_at hl 0 rfl) ?_
            obtain ⟨x2, e_x2, hf⟩ := fh_b hf
            refine fh_geti S hE.1 hI e_x2 (hc := rfl) (hin := in_6) (by decide) (hts _ k_163) d_Mo_count_62 ?_
            refine lv_ishl hx hb d_Mo_count_65 ?_
            refine lv_iconst (v := 1) hx hb d_Mo_count_66 (by decide) ?_
            refine lv_isub hx hb d_Mo_count_67 ?_
            obtain ⟨o3, e_o3, hf⟩ := fh_b hf
            obtain ⟨r4, e_r4, hf⟩ := fh_b hf
            refine fh_callV (As := [.int (((1 : Int32) <<< (x2 &&& 31)) - 1)]) (rest := []) S fT_good hE hI e_o3 rfl (c_Mo_places e_r4) fy_Mo_places fst_Mo_places k_188 ⟨rfl, rfl⟩ ⟨Nat.le_of_ble_eq_true rfl, Nat.le_of_ble_eq_true rfl⟩ ⟨Nat.zero_le _, Nat.zero_le _⟩ rfl hl.1 rfl (Nat.le_of_ble_eq_true rfl) d_Mo_count_68 (fun H locs hI => ?_)
            obtain rfl := Option.some.inj hf
            exact fh_iret S hr hk rfl hAe hI d_Mo_count_71
          · replace hf := fh_t c_49 hf
            refine fh_aload_n S d_Mo_count_52 rfl (lv_at hl 0 rfl) ?_
            obtain ⟨x5, e_x5, hf⟩ := fh_b hf
            refine fh_geti S hE.1 hI e_x5 (hc := rfl) (hin := in_6) (by decide) (hts _ k_161) d_Mo_count_53 ?_
            refine lv_goto (tgt := 71) hx hb d_Mo_count_56 (by decide) ?_
            obtain rfl := Option.some.inj hf
            exact fh_iret S hr hk rfl hAe hI d_Mo_count_71
        · replace hf := fh_t c_37 hf
          refine fh_aload_n S d_Mo_count_40 rfl (lv_at hl 0 rfl) ?_
          obtain ⟨o6, e_o6, hf⟩ := fh_b hf
          obtain ⟨r7, e_r7, hf⟩ := fh_b hf
          refine fh_callV (As := []) (rest := []) S fT_good hE hI e_o6 rfl (c_Mo_standing e_r7) fy_Mo_standing fst_Mo_standing k_176 ⟨rfl, rfl⟩ ⟨Nat.le_of_ble_eq_true rfl, Nat.le_of_ble_eq_true rfl⟩ ⟨Nat.zero_le _, Nat.zero_le _⟩ rfl hl.1 rfl (Nat.le_of_ble_eq_true rfl) d_Mo_count_41 (fun H locs hI => ?_)
          refine lv_goto (tgt := 71) hx hb d_Mo_count_44 (by decide) ?_
          obtain rfl := Option.some.inj hf
          exact fh_iret S hr hk rfl hAe hI d_Mo_count_71
      · replace hf := fh_t c_25 hf
        refine fh_aload_n S d_Mo_count_28 rfl (lv_at hl 0 rfl) ?_
        obtain ⟨x8, e_x8, hf⟩ := fh_b hf
        refine fh_geti S hE.1 hI e_x8 (hc := rfl) (hin := in_6) (by decide) (hts _ k_168) d_Mo_count_29 ?_
        refine lv_goto (tgt := 71) hx hb d_Mo_count_32 (by decide) ?_
        obtain rfl := Option.some.inj hf
        exact fh_iret S hr hk rfl hAe hI d_Mo_count_71
    · replace hf := fh_t c_13 hf
      refine fh_aload_n S d_Mo_count_16 rfl (lv_at hl 0 rfl) ?_
      obtain ⟨x9, e_x9, hf⟩ := fh_b hf
      refine fh_geti S hE.1 hI e_x9 (hc := rfl) (hin := in_6) (by decide) (hts _ k_163) d_Mo_count_17 ?_
      refine lv_goto (tgt := 71) hx hb d_Mo_count_20 (by decide) ?_
      obtain rfl := Option.some.inj hf
      exact fh_iret S hr hk rfl hAe hI d_Mo_count_71
  · replace hf := fh_t c_6 hf
    refine lv_bipush (v := (-2)) hx hb d_Mo_count_9 (by decide) ?_
    obtain rfl := Option.some.inj hf
    exact fh_iret S hr hk rfl hAe hI d_Mo_count_11
theorem d_Mo_told_0 : decode c0_Mo_told 0 = .ok (.aload_n 0, 1) := by decide +kernel
theorem d_Mo_told_1 : decode c0_Mo_told 1 = .ok (.iload_n 1, 1) := by decide +kernel
theorem d_Mo_told_2 : decode c0_Mo_told 2 = .ok (.invokevirtual 157, 3) := by decide +kernel
theorem d_Mo_told_5 : decode c0_Mo_told 5 = .ok (.ifCond .eq 12, 3) := by decide +kernel
theorem d_Mo_told_8 : decode c0_Mo_told 8 = .ok (.iload_n 2, 1) := by decide +kernel
theorem d_Mo_told_9 : decode c0_Mo_told 9 = .ok (.iconst 0, 1) := by decide +kernel
theorem d_Mo_told_10 : decode c0_Mo_told 10 = .ok (.iconst 4, 1) := by decide +kernel
theorem d_Mo_told_11 : decode c0_Mo_told 11 = .ok (.invokestatic 145, 3) := by decide +kernel
theorem d_Mo_told_14 : decode c0_Mo_told 14 = .ok (.ifCond .ne 6, 3) := by decide +kernel
theorem d_Mo_told_17 : decode c0_Mo_told 17 = .ok (.bipush (-2), 2) := by decide +kernel
theorem d_Mo_told_19 : decode c0_Mo_told 19 = .ok (.ireturn, 1) := by decide +kernel
theorem d_Mo_told_20 : decode c0_Mo_told 20 = .ok (.iload_n 2, 1) := by decide +kernel
theorem d_Mo_told_21 : decode c0_Mo_told 21 = .ok (.ifCond .ne 12, 3) := by decide +kernel
theorem d_Mo_told_24 : decode c0_Mo_told 24 = .ok (.aload_n 0, 1) := by decide +kernel
theorem d_Mo_told_25 : decode c0_Mo_told 25 = .ok (.getfield 7, 3) := by decide +kernel
theorem d_Mo_told_28 : decode c0_Mo_told 28 = .ok (.iload_n 1, 1) := by decide +kernel
theorem d_Mo_told_29 : decode c0_Mo_told 29 = .ok (.iaload, 1) := by decide +kernel
theorem d_Mo_told_30 : decode c0_Mo_told 30 = .ok (.goto 32, 3) := by decide +kernel
theorem d_Mo_told_33 : decode c0_Mo_told 33 = .ok (.iload_n 2, 1) := by decide +kernel
theorem d_Mo_told_34 : decode c0_Mo_told 34 = .ok (.aload_n 0, 1) := by decide +kernel
theorem d_Mo_told_35 : decode c0_Mo_told 35 = .ok (.getfield 7, 3) := by decide +kernel
theorem d_Mo_told_38 : decode c0_Mo_told 38 = .ok (.iload_n 1, 1) := by decide +kernel
theorem d_Mo_told_39 : decode c0_Mo_told 39 = .ok (.iaload, 1) := by decide +kernel
theorem d_Mo_told_40 : decode c0_Mo_told 40 = .ok (.invokestatic 141, 3) := by decide +kernel
theorem d_Mo_told_43 : decode c0_Mo_told 43 = .ok (.if_icmp .gt 18, 3) := by decide +kernel
theorem d_Mo_told_46 : decode c0_Mo_told 46 = .ok (.aload_n 0, 1) := by decide +kernel
theorem d_Mo_told_47 : decode c0_Mo_told 47 = .ok (.getfield 13, 3) := by decide +kernel
theorem d_Mo_told_50 : decode c0_Mo_told 50 = .ok (.iconst 4, 1) := by decide +kernel
theorem d_Mo_told_51 : decode c0_Mo_told 51 = .ok (.iload_n 1, 1) := by decide +kernel
theorem d_Mo_told_52 : decode c0_Mo_told 52 = .ok (.imul, 1) := by decide +kernel
theorem d_Mo_told_53 : decode c0_Mo_told 53 = .ok (.iload_n 2, 1) := by decide +kernel
theorem d_Mo_told_54 : decode c0_Mo_told 54 = .ok (.iadd, 1) := by decide +kernel
theorem d_Mo_told_55 : decode c0_Mo_told 55 = .ok (.iconst 1, 1) := by decide +kernel
theorem d_Mo_told_56 : decode c0_Mo_told 56 = .ok (.isub, 1) := by decide +kernel
theorem d_Mo_told_57 : decode c0_Mo_told 57 = .ok (.iaload, 1) := by decide +kernel
theorem d_Mo_told_58 : decode c0_Mo_told 58 = .ok (.goto 4, 3) := by decide +kernel
theorem d_Mo_told_61 : decode c0_Mo_told 61 = .ok (.iconst (-1), 1) := by decide +kernel
theorem d_Mo_told_62 : decode c0_Mo_told 62 = .ok (.ireturn, 1) := by decide +kernel
def f_Mo_told (K : Nat → ClassId) (N : Nat) (o : Nat) (a1 : Int32) (a2 : Int32) (h0 : fh_H) : Option (Int32 × fh_H) :=
  (fg_o h0 (some o) 6).bind fun o1 => (f_Mo_isPoint K N o1 a1 h0).bind fun r2 => if r2.1 = 0 then (some ((-2), r2.2)) else ((f_Mo_isIn K N a2 0 4 r2.2).bind fun r3 => if r3.1 = 0 then (some ((-2), r3.2)) else (if a2 = 0 then ((fg_a r3.2 (some o) 6 1).bind fun x9 => (fa_i (K 0) r3.2 x9 a1).bind fun x10 => some (x10, r3.2)) else ((fg_a r3.2 (some o) 6 1).bind fun x4 => (fa_i (K 0) r3.2 x4 a1).bind fun x5 => (f_Mo_needs1 K N x5 r3.2).bind fun r6 => if r6.1 < a2 then (some ((-1), r6.2)) else ((fg_a r6.2 (some o) 6 2).bind fun x7 => (fa_i (K 0) r6.2 x7 (((4 * a1) + a2) - 1)).bind fun x8 => some (x8, r6.2)))))
set_option maxHeartbeats 4000000 in
set_option maxRecDepth 100000 in
theorem c_Mo_told {l : Launch} {D : va_G} {K : Nat → ClassId} {t : Nat → Nat} {N : Nat} {o : Nat} {a1 : Int32} {a2 : Int32} {h0 : fh_H} {res : Int32 × fh_H} (hf : f_Mo_told K N o a1 a2 h0 = some res) : fC l D K t y_Mo_told c0_Mo_told 3 (some .int) rm_Mo_told [.ref o, .int a1, .int a2] h0 (some (.int res.1)) res.2 := by
  refine fh_body (by decide) (Nat.le_of_ble_eq_true rfl) ?_
  intro p e s m below meth c A ls S hr hk hnm hE hAe hI hl
  obtain ⟨hx, hb, hml, hown, hts⟩ := id S
  have hl : lv_has ls 3 [(0, va_rf (some o)), (1, .int a1), (2, .int a2)] := hl
  unfold f_Mo_told at hf
  refine fh_aload_n S d_Mo_told_0 rfl (lv_at hl 0 rfl) ?_
  refine lv_iload_n hx hb d_Mo_told_1 rfl (lv_at hl 1 rfl) ?_
  obtain ⟨o1, e_o1, hf⟩ := fh_b hf
  obtain ⟨r2, e_r2, hf⟩ := fh_b hf
  refine fh_callV (As := [.int a1]) (rest := []) S fT_good hE hI e_o1 rfl (c_Mo_isPoint e_r2) fy_Mo_isPoint fst_Mo_isPoint k_175 ⟨rfl, rfl⟩ ⟨Nat.le_of_ble_eq_true rfl, Nat.le_of_ble_eq_true rfl⟩ ⟨Nat.zero_le _, Nat.zero_le _⟩ rfl hl.1 rfl (Nat.le_of_ble_eq_true rfl) d_Mo_told_2 (fun H locs hI => ?_)
  refine lv_if_eq (tgt := 17) hx hb d_Mo_told_5 (by decide) (fun c_5 => ?_) (fun c_5 => ?_)
  · replace hf := fh_t c_5 hf
    refine lv_bipush (v := (-2)) hx hb d_Mo_told_17 (by decide) ?_
    obtain rfl := Option.some.inj hf
    exact fh_iret S hr hk rfl hAe hI d_Mo_told_19
  · replace hf := fh_f c_5 hf
    refine lv_iload_n hx hb d_Mo_told_8 rfl (lv_at hl 2 rfl) ?_
    refine lv_iconst (v := 0) hx hb d_Mo_told_9 (by decide) ?_
    refine lv_iconst (v := 4) hx hb d_Mo_told_10 (by decide) ?_
    obtain ⟨r3, e_r3, hf⟩ := fh_b hf
    refine fh_callS (As := [.int a2, .int 0, .int 4]) (rest := []) S fT_good hE hI (c_Mo_isIn e_r3) fy_Mo_isIn fst_Mo_isIn k_172 ⟨rfl, rfl⟩ ⟨Nat.le_of_ble_eq_true rfl, Nat.le_of_ble_eq_true rfl⟩ ⟨Nat.zero_le _, Nat.zero_le _⟩ rfl hl.1 rfl (Nat.le_of_ble_eq_true rfl) d_Mo_told_11 (fun H locs hI => ?_)
    refine lv_if_ne (tgt := 20) hx hb d_Mo_told_14 (by decide) (fun c_14 => ?_) (fun c_14 => ?_)
    · replace hf := fh_f c_14 hf
      refine lv_iload_n hx hb d_Mo_told_20 rfl (lv_at hl 2 rfl) ?_
      refine lv_if_ne (tgt := 33) hx hb d_Mo_told_21 (by decide) (fun c_21 => ?_) (fun c_21 => ?_)
      · replace hf := fh_f c_21 hf
        refine lv_iload_n hx hb d_Mo_told_33 rfl (lv_at hl 2 rfl) ?_
        refine fh_aload_n S d_Mo_told_34 rfl (lv_at hl 0 rfl) ?_
        obtain ⟨x4, e_x4, hf⟩ := fh_b hf
        refine fh_geta S hE.1 hI e_x4 (hc := rfl) (hin := in_6) (by decide) (hts _ k_164) d_Mo_told_35 ?_
        refine lv_iload_n hx hb d_Mo_told_38 rfl (lv_at hl 1 rfl) ?_
        obtain ⟨x5, e_x5, hf⟩ := fh_b hf
        refine fh_iald S hE.1 hI 0 rfl e_x5 d_Mo_told_39 ?_
        obtain ⟨r6, e_r6, hf⟩ := fh_b hf
        refine fh_callS (As := [.int x5]) (rest := [.int a2]) S fT_good hE hI (c_Mo_needs1 e_r6) fy_Mo_needs1 fst_Mo_needs1 k_171 ⟨rfl, rfl⟩ ⟨Nat.le_of_ble_eq_true rfl, Nat.le_of_ble_eq_true rfl⟩ ⟨Nat.zero_le _, Nat.zero_le _⟩ rfl hl.1 rfl (Nat.le_of_ble_eq_true rfl) d_Mo_told_40 (fun H locs hI => ?_)
        refine lv_icmp_gt (tgt := 61) hx hb d_Mo_told_43 (by decide) (fun c_43 => ?_) (fun c_43 => ?_)
        · replace hf := fh_t c_43 hf
          refine lv_iconst (v := (-1)) hx hb d_Mo_told_61 (by decide) ?_
          obtain rfl := Option.some.inj hf
          exact fh_iret S hr hk rfl hAe hI d_Mo_told_62
        · replace hf := fh_f c_43 hf
          refine fh_aload_n S d_Mo_told_46 rfl (lv_at hl 0 rfl) ?_
          obtain ⟨x7, e_x7, hf⟩ := fh_b hf
          refine fh_geta S hE.1 hI e_x7 (hc := rfl) (hin := in_6) (by decide) (hts _ k_165) d_Mo_told_47 ?_
          refine lv_iconst (v := 4) hx hb d_Mo_told_50 (by decide) ?_
          refine lv_iload_n hx hb d_Mo_told_51 rfl (lv_at hl 1 rfl) ?_
          refine lv_imul hx hb d_Mo_told_52 ?_
          refine lv_iload_n hx hb d_Mo_told_53 rfl (lv_at hl 2 rfl) ?_
          refine lv_iadd hx hb d_Mo_told_54 ?_
          refine lv_iconst (v := 1) hx hb d_Mo_told_55 (by decide) ?_
          refine lv_isub hx hb d_Mo_told_56 ?_
          obtain ⟨x8, e_x8, hf⟩ := fh_b hf
          refine fh_iald S hE.1 hI 0 rfl e_x8 d_Mo_told_57 ?_
          refine lv_goto (tgt := 62) hx hb d_Mo_told_58 (by decide) ?_
          obtain rfl := Option.some.inj hf
          exact fh_iret S hr hk rfl hAe hI d_Mo_told_62
      · replace hf := fh_t c_21 hf
        refine fh_aload_n S d_Mo_told_24 rfl (lv_at hl 0 rfl) ?_
        obtain ⟨x9, e_x9, hf⟩ := fh_b hf
        refine fh_geta S hE.1 hI e_x9 (hc := rfl) (hin := in_6) (by decide) (hts _ k_164) d_Mo_told_25 ?_
        refine lv_iload_n hx hb d_Mo_told_28 rfl (lv_at hl 1 rfl) ?_
        obtain ⟨x10, e_x10, hf⟩ := fh_b hf
        refine fh_iald S hE.1 hI 0 rfl e_x10 d_Mo_told_29 ?_
        refine lv_goto (tgt := 62) hx hb d_Mo_told_30 (by decide) ?_
        obtain rfl := Option.some.inj hf
        exact fh_iret S hr hk rfl hAe hI d_Mo_told_62
    · replace hf := fh_t c_14 hf
      refine lv_bipush (v := (-2)) hx hb d_Mo_told_17 (by decide) ?_
      obtain rfl := Option.some.inj hf
      exact fh_iret S hr hk rfl hAe hI d_Mo_told_19
theorem d_Mo_falls_0 : decode c0_Mo_falls 0 = .ok (.iload_n 1, 1) := by decide +kernel
theorem d_Mo_falls_1 : decode c0_Mo_falls 1 = .ok (.iconst 0, 1) := by decide +kernel
theorem d_Mo_falls_2 : decode c0_Mo_falls 2 = .ok (.aload_n 0, 1) := by decide +kernel
theorem d_Mo_falls_3 : decode c0_Mo_falls 3 = .ok (.getfield 20, 3) := by decide +kernel
theorem d_Mo_falls_6 : decode c0_Mo_falls 6 = .ok (.iconst 1, 1) := by decide +kernel
theorem d_Mo_falls_7 : decode c0_Mo_falls 7 = .ok (.isub, 1) := by decide +kernel
theorem d_Mo_falls_8 : decode c0_Mo_falls 8 = .ok (.invokestatic 145, 3) := by decide +kernel
theorem d_Mo_falls_11 : decode c0_Mo_falls 11 = .ok (.ifCond .eq 12, 3) := by decide +kernel
theorem d_Mo_falls_14 : decode c0_Mo_falls 14 = .ok (.aload_n 0, 1) := by decide +kernel
theorem d_Mo_falls_15 : decode c0_Mo_falls 15 = .ok (.getfield 30, 3) := by decide +kernel
theorem d_Mo_falls_18 : decode c0_Mo_falls 18 = .ok (.iload_n 1, 1) := by decide +kernel
theorem d_Mo_falls_19 : decode c0_Mo_falls 19 = .ok (.iaload, 1) := by decide +kernel
theorem d_Mo_falls_20 : decode c0_Mo_falls 20 = .ok (.goto 5, 3) := by decide +kernel
theorem d_Mo_falls_23 : decode c0_Mo_falls 23 = .ok (.bipush (-2), 2) := by decide +kernel
theorem d_Mo_falls_25 : decode c0_Mo_falls 25 = .ok (.ireturn, 1) := by decide +kernel
def f_Mo_falls (K : Nat → ClassId) (N : Nat) (o : Nat) (a1 : Int32) (h0 : fh_H) : Option (Int32 × fh_H) :=
  (fg_i h0 (some o) 6 4).bind fun x1 => (f_Mo_isIn K N a1 0 (x1 - 1) h0).bind fun r2 => if r2.1 = 0 then (some ((-2), r2.2)) else ((fg_a r2.2 (some o) 6 7).bind fun x3 => (fa_i (K 0) r2.2 x3 a1).bind fun x4 => some (x4, r2.2))
set_option maxHeartbeats 4000000 in
set_option maxRecDepth 100000 in
theorem c_Mo_falls {l : Launch} {D : va_G} {K : Nat → ClassId} {t : Nat → Nat} {N : Nat} {o : Nat} {a1 : Int32} {h0 : fh_H} {res : Int32 × fh_H} (hf : f_Mo_falls K N o a1 h0 = some res) : fC l D K t y_Mo_falls c0_Mo_falls 2 (some .int) rm_Mo_falls [.ref o, .int a1] h0 (some (.int res.1)) res.2 := by
  refine fh_body (by decide) (Nat.le_of_ble_eq_true rfl) ?_
  intro p e s m below meth c A ls S hr hk hnm hE hAe hI hl
  obtain ⟨hx, hb, hml, hown, hts⟩ := id S
  have hl : lv_has ls 2 [(0, va_rf (some o)), (1, .int a1)] := hl
  unfold f_Mo_falls at hf
  refine lv_iload_n hx hb d_Mo_falls_0 rfl (lv_at hl 1 rfl) ?_
  refine lv_iconst (v := 0) hx hb d_Mo_falls_1 (by decide) ?_
  refine fh_aload_n S d_Mo_falls_2 rfl (lv_at hl 0 rfl) ?_
  obtain ⟨x1, e_x1, hf⟩ := fh_b hf
  refine fh_geti S hE.1 hI e_x1 (hc := rfl) (hin := in_6) (by decide) (hts _ k_168) d_Mo_falls_3 ?_
  refine lv_iconst (v := 1) hx hb d_Mo_falls_6 (by decide) ?_
  refine lv_isub hx hb d_Mo_falls_7 ?_
  obtain ⟨r2, e_r2, hf⟩ := fh_b hf
  refine fh_callS (As := [.int a1, .int 0, .int (x1 - 1)]) (rest := []) S fT_good hE hI (c_Mo_isIn e_r2) fy_Mo_isIn fst_Mo_isIn k_172 ⟨rfl, rfl⟩ ⟨Nat.le_of_ble_eq_true rfl, Nat.le_of_ble_eq_true rfl⟩ ⟨Nat.zero_le _, Nat.zero_le _⟩ rfl hl.1 rfl (Nat.le_of_ble_eq_true rfl) d_Mo_falls_8 (fun H locs hI => ?_)
  refine lv_if_eq (tgt := 23) hx hb d_Mo_falls_11 (by decide) (fun c_11 => ?_) (fun c_11 => ?_)
  · replace hf := fh_t c_11 hf
    refine lv_bipush (v := (-2)) hx hb d_Mo_falls_23 (by decide) ?_
    obtain rfl := Option.some.inj hf
    exact fh_iret S hr hk rfl hAe hI d_Mo_falls_25
  · replace hf := fh_f c_11 hf
    refine fh_aload_n S d_Mo_falls_14 rfl (lv_at hl 0 rfl) ?_
    obtain ⟨x3, e_x3, hf⟩ := fh_b hf
    refine fh_geta S hE.1 hI e_x3 (hc := rfl) (hin := in_6) (by decide) (hts _ k_162) d_Mo_falls_15 ?_
    refine lv_iload_n hx hb d_Mo_falls_18 rfl (lv_at hl 1 rfl) ?_
    obtain ⟨x4, e_x4, hf⟩ := fh_b hf
    refine fh_iald S hE.1 hI 0 rfl e_x4 d_Mo_falls_19 ?_
    refine lv_goto (tgt := 25) hx hb d_Mo_falls_20 (by decide) ?_
    obtain rfl := Option.some.inj hf
    exact fh_iret S hr hk rfl hAe hI d_Mo_falls_25
theorem d_Mo_place_0 : decode c0_Mo_place 0 = .ok (.iload_n 1, 1) := by decide +kernel
theorem d_Mo_place_1 : decode c0_Mo_place 1 = .ok (.iconst 0, 1) := by decide +kernel
theorem d_Mo_place_2 : decode c0_Mo_place 2 = .ok (.aload_n 0, 1) := by decide +kernel
theorem d_Mo_place_3 : decode c0_Mo_place 3 = .ok (.getfield 20, 3) := by decide +kernel
theorem d_Mo_place_6 : decode c0_Mo_place 6 = .ok (.iconst 1, 1) := by decide +kernel
theorem d_Mo_place_7 : decode c0_Mo_place 7 = .ok (.isub, 1) := by decide +kernel
theorem d_Mo_place_8 : decode c0_Mo_place 8 = .ok (.invokestatic 145, 3) := by decide +kernel
theorem d_Mo_place_11 : decode c0_Mo_place 11 = .ok (.ifCond .eq 20, 3) := by decide +kernel
theorem d_Mo_place_14 : decode c0_Mo_place 14 = .ok (.aload_n 0, 1) := by decide +kernel
theorem d_Mo_place_15 : decode c0_Mo_place 15 = .ok (.iload_n 2, 1) := by decide +kernel
theorem d_Mo_place_16 : decode c0_Mo_place 16 = .ok (.invokevirtual 157, 3) := by decide +kernel
theorem d_Mo_place_19 : decode c0_Mo_place 19 = .ok (.ifCond .eq 12, 3) := by decide +kernel
theorem d_Mo_place_22 : decode c0_Mo_place 22 = .ok (.iload_n 3, 1) := by decide +kernel
theorem d_Mo_place_23 : decode c0_Mo_place 23 = .ok (.iconst 0, 1) := by decide +kernel
theorem d_Mo_place_24 : decode c0_Mo_place 24 = .ok (.iconst 1, 1) := by decide +kernel
theorem d_Mo_place_25 : decode c0_Mo_place 25 = .ok (.invokestatic 145, 3) := by decide +kernel
theorem d_Mo_place_28 : decode c0_Mo_place 28 = .ok (.ifCond .ne 6, 3) := by decide +kernel
theorem d_Mo_place_31 : decode c0_Mo_place 31 = .ok (.bipush (-2), 2) := by decide +kernel
theorem d_Mo_place_33 : decode c0_Mo_place 33 = .ok (.ireturn, 1) := by decide +kernel
theorem d_Mo_place_34 : decode c0_Mo_place 34 = .ok (.aload_n 0, 1) := by decide +kernel
theorem d_Mo_place_35 : decode c0_Mo_place 35 = .ok (.getfield 30, 3) := by decide +kernel
theorem d_Mo_place_38 : decode c0_Mo_place 38 = .ok (.iload_n 1, 1) := by decide +kernel
theorem d_Mo_place_39 : decode c0_Mo_place 39 = .ok (.iaload, 1) := by decide +kernel
theorem d_Mo_place_40 : decode c0_Mo_place 40 = .ok (.iconst (-1), 1) := by decide +kernel
theorem d_Mo_place_41 : decode c0_Mo_place 41 = .ok (.if_icmp .eq 15, 3) := by decide +kernel
theorem d_Mo_place_44 : decode c0_Mo_place 44 = .ok (.aload_n 0, 1) := by decide +kernel
theorem d_Mo_place_45 : decode c0_Mo_place 45 = .ok (.getfield 30, 3) := by decide +kernel
theorem d_Mo_place_48 : decode c0_Mo_place 48 = .ok (.iload_n 1, 1) := by decide +kernel
theorem d_Mo_place_49 : decode c0_Mo_place 49 = .ok (.iaload, 1) := by decide +kernel
theorem d_Mo_place_50 : decode c0_Mo_place 50 = .ok (.iload_n 2, 1) := by decide +kernel
theorem d_Mo_place_51 : decode c0_Mo_place 51 = .ok (.if_icmp .gt 5, 3) := by decide +kernel
theorem d_Mo_place_54 : decode c0_Mo_place 54 = .ok (.iconst (-1), 1) := by decide +kernel
theorem d_Mo_place_55 : decode c0_Mo_place 55 = .ok (.ireturn, 1) := by decide +kernel
theorem d_Mo_place_56 : decode c0_Mo_place 56 = .ok (.iload_n 3, 1) := by decide +kernel
theorem d_Mo_place_57 : decode c0_Mo_place 57 = .ok (.ifCond .ne 17, 3) := by decide +kernel
theorem d_Mo_place_60 : decode c0_Mo_place 60 = .ok (.aload_n 0, 1) := by decide +kernel
theorem d_Mo_place_61 : decode c0_Mo_place 61 = .ok (.getfield 23, 3) := by decide +kernel
theorem d_Mo_place_64 : decode c0_Mo_place 64 = .ok (.bipush 10, 2) := by decide +kernel
theorem d_Mo_place_66 : decode c0_Mo_place 66 = .ok (.iload_n 1, 1) := by decide +kernel
theorem d_Mo_place_67 : decode c0_Mo_place 67 = .ok (.imul, 1) := by decide +kernel
theorem d_Mo_place_68 : decode c0_Mo_place 68 = .ok (.iload_n 2, 1) := by decide +kernel
theorem d_Mo_place_69 : decode c0_Mo_place 69 = .ok (.iadd, 1) := by decide +kernel
theorem d_Mo_place_70 : decode c0_Mo_place 70 = .ok (.laload, 1) := by decide +kernel
theorem d_Mo_place_71 : decode c0_Mo_place 71 = .ok (.goto 14, 3) := by decide +kernel
theorem d_Mo_place_74 : decode c0_Mo_place 74 = .ok (.aload_n 0, 1) := by decide +kernel
theorem d_Mo_place_75 : decode c0_Mo_place 75 = .ok (.getfield 27, 3) := by decide +kernel
theorem d_Mo_place_78 : decode c0_Mo_place 78 = .ok (.bipush 10, 2) := by decide +kernel
theorem d_Mo_place_80 : decode c0_Mo_place 80 = .ok (.iload_n 1, 1) := by decide +kernel
theorem d_Mo_place_81 : decode c0_Mo_place 81 = .ok (.imul, 1) := by decide +kernel
theorem d_Mo_place_82 : decode c0_Mo_place 82 = .ok (.iload_n 2, 1) := by decide +kernel
theorem d_Mo_place_83 : decode c0_Mo_place 83 = .ok (.iadd, 1) := by decide +kernel
theorem d_Mo_place_84 : decode c0_Mo_place 84 = .ok (.laload, 1) := by decide +kernel
theorem d_Mo_place_85 : decode c0_Mo_place 85 = .ok (.l2i, 1) := by decide +kernel
theorem d_Mo_place_86 : decode c0_Mo_place 86 = .ok (.ireturn, 1) := by decide +kernel
def b_Mo_place_56 (K : Nat → ClassId) (N : Nat) (o : Nat) (v1 : Int32) (v2 : Int32) (v3 : Int32) (h : fh_H) : Option (Int32 × fh_H) :=
  if v3 = 0 then ((fg_a h (some o) 6 5).bind fun x3 => (fa_l (K 1) h x3 ((10 * v1) + v2)).bind fun x4 => some (x4.toInt32, h)) else ((fg_a h (some o) 6 6).bind fun x1 => (fa_l (K 1) h x1 ((10 * v1) + v2)).bind fun x2 => some (x2.toInt32, h))
def f_Mo_place (K : Nat → ClassId) (N : Nat) (o : Nat) (a1 : Int32) (a2 : Int32) (a3 : Int32) (h0 : fh_H) : Option (Int32 × fh_H) :=
  (fg_i h0 (some o) 6 4).bind fun x1 => (f_Mo_isIn K N a1 0 (x1 - 1) h0).bind fun r2 => if r2.1 = 0 then (some ((-2), r2.2)) else ((fg_o r2.2 (some o) 6).bind fun o3 => (f_Mo_isPoint K N o3 a2 r2.2).bind fun r4 => if r4.1 = 0 then (some ((-2), r4.2)) else ((f_Mo_isIn K N a3 0 1 r4.2).bind fun r5 => if r5.1 = 0 then (some ((-2), r5.2)) else ((fg_a r5.2 (some o) 6 7).bind fun x6 => (fa_i (K 0) r5.2 x6 a1).bind fun x7 => if x7 = (-1) then (b_Mo_place_56 K N o a1 a2 a3 r5.2) else ((fg_a r5.2 (some o) 6 7).bind fun x8 => (fa_i (K 0) r5.2 x8 a1).bind fun x9 => if a2 < x9 then (b_Mo_place_56 K N o a1 a2 a3 r5.2) else (some ((-1), r5.2))))))
set_option maxHeartbeats 4000000 in
set_option maxRecDepth 100000 in
theorem c_Mo_place {l : Launch} {D : va_G} {K : Nat → ClassId} {t : Nat → Nat} {N : Nat} {o : Nat} {a1 : Int32} {a2 : Int32} {a3 : Int32} {h0 : fh_H} {res : Int32 × fh_H} (hf : f_Mo_place K N o a1 a2 a3 h0 = some res) : fC l D K t y_Mo_place c0_Mo_place 4 (some .int) rm_Mo_place [.ref o, .int a1, .int a2, .int a3] h0 (some (.int res.1)) res.2 := by
  refine fh_body (by decide) (Nat.le_of_ble_eq_true rfl) ?_
  intro p e s m below meth c A ls S hr hk hnm hE hAe hI hl
  obtain ⟨hx, hb, hml, hown, hts⟩ := id S
  have hl : lv_has ls 4 [(0, va_rf (some o)), (1, .int a1), (2, .int a2), (3, .int a3)] := hl
  have B56 : ∀ (v1 : Int32) (v2 : Int32) (v3 : Int32) (h : fh_H) (H : Heap) (locs : List Loc) (ls : Array Slot), lv_has ls 4 [(0, va_rf (some o)), (1, .int v1), (2, .int v2), (3, .int v3)] → fh_I D classes A s.heap h H locs → b_Mo_place_56 K N o v1 v2 v3 h = some res → W p l e rm_Mo_place s m [.ref o, .int a1, .int a2, .int a3].toArray below meth c H locs 0 0 (MQ below (fh_Q D classes h0 s.heap.size (some (.int res.1)) res.2) [.ref o, .int a1, .int a2, .int a3].toArray s 0 0 A) (F0 m 56 ls []) := by
    intro v1 v2 v3 h H locs ls hl hI hf
    unfold b_Mo_place_56 at hf
    refine lv_iload_n hx hb d_Mo_place_56 rfl (lv_at hl 3 rfl) ?_
    refine lv_if_ne (tgt := 74) hx hb d_Mo_place_57 (by decide) (fun c_57 => ?_) (fun c_57 => ?_)
    · replace hf := fh_f c_57 hf
      refine fh_aload_n S d_Mo_place_74 rfl (lv_at hl 0 rfl) ?_
      obtain ⟨x1, e_x1, hf⟩ := fh_b hf
      refine fh_geta S hE.1 hI e_x1 (hc := rfl) (hin := in_6) (by decide) (hts _ k_142) d_Mo_place_75 ?_
      refine lv_bipush (v := 10) hx hb d_Mo_place_78 (by decide) ?_
      refine lv_iload_n hx hb d_Mo_place_80 rfl (lv_at hl 1 rfl) ?_
      refine lv_imul hx hb d_Mo_place_81 ?_
      refine lv_iload_n hx hb d_Mo_place_82 rfl (lv_at hl 2 rfl) ?_
      refine lv_iadd hx hb d_Mo_place_83 ?_
      obtain ⟨x2, e_x2, hf⟩ := fh_b hf
      refine fh_lald S hE.1 hI 1 rfl e_x2 d_Mo_place_84 ?_
      refine lv_l2i hx hb d_Mo_place_85 rfl ?_
      obtain rfl := Option.some.inj hf
      exact fh_iret S hr hk rfl hAe hI d_Mo_place_86
    · replace hf := fh_t c_57 hf
      refine fh_aload_n S d_Mo_place_60 rfl (lv_at hl 0 rfl) ?_
      obtain ⟨x3, e_x3, hf⟩ := fh_b hf
      refine fh_geta S hE.1 hI e_x3 (hc := rfl) (hin := in_6) (by decide) (hts _ k_140) d_Mo_place_61 ?_
      refine lv_bipush (v := 10) hx hb d_Mo_place_64 (by decide) ?_
      refine lv_iload_n hx hb d_Mo_place_66 rfl (lv_at hl 1 rfl) ?_
      refine lv_imul hx hb d_Mo_place_67 ?_
      refine lv_iload_n hx hb d_Mo_place_68 rfl (lv_at hl 2 rfl) ?_
      refine lv_iadd hx hb d_Mo_place_69 ?_
      obtain ⟨x4, e_x4, hf⟩ := fh_b hf
      refine fh_lald S hE.1 hI 1 rfl e_x4 d_Mo_place_70 ?_
      refine lv_goto (tgt := 85) hx hb d_Mo_place_71 (by decide) ?_
      refine lv_l2i hx hb d_Mo_place_85 rfl ?_
      obtain rfl := Option.some.inj hf
      exact fh_iret S hr hk rfl hAe hI d_Mo_place_86
  unfold f_Mo_place at hf
  refine lv_iload_n hx hb d_Mo_place_0 rfl (lv_at hl 1 rfl) ?_
  refine lv_iconst (v := 0) hx hb d_Mo_place_1 (by decide) ?_
  refine fh_aload_n S d_Mo_place_2 rfl (lv_at hl 0 rfl) ?_
  obtain ⟨x1, e_x1, hf⟩ := fh_b hf
  refine fh_geti S hE.1 hI e_x1 (hc := rfl) (hin := in_6) (by decide) (hts _ k_168) d_Mo_place_3 ?_
  refine lv_iconst (v := 1) hx hb d_Mo_place_6 (by decide) ?_
  refine lv_isub hx hb d_Mo_place_7 ?_
  obtain ⟨r2, e_r2, hf⟩ := fh_b hf
  refine fh_callS (As := [.int a1, .int 0, .int (x1 - 1)]) (rest := []) S fT_good hE hI (c_Mo_isIn e_r2) fy_Mo_isIn fst_Mo_isIn k_172 ⟨rfl, rfl⟩ ⟨Nat.le_of_ble_eq_true rfl, Nat.le_of_ble_eq_true rfl⟩ ⟨Nat.zero_le _, Nat.zero_le _⟩ rfl hl.1 rfl (Nat.le_of_ble_eq_true rfl) d_Mo_place_8 (fun H locs hI => ?_)
  refine lv_if_eq (tgt := 31) hx hb d_Mo_place_11 (by decide) (fun c_11 => ?_) (fun c_11 => ?_)
  · replace hf := fh_t c_11 hf
    refine lv_bipush (v := (-2)) hx hb d_Mo_place_31 (by decide) ?_
    obtain rfl := Option.some.inj hf
    exact fh_iret S hr hk rfl hAe hI d_Mo_place_33
  · replace hf := fh_f c_11 hf
    refine fh_aload_n S d_Mo_place_14 rfl (lv_at hl 0 rfl) ?_
    refine lv_iload_n hx hb d_Mo_place_15 rfl (lv_at hl 2 rfl) ?_
    obtain ⟨o3, e_o3, hf⟩ := fh_b hf
    obtain ⟨r4, e_r4, hf⟩ := fh_b hf
    refine fh_callV (As := [.int a2]) (rest := []) S fT_good hE hI e_o3 rfl (c_Mo_isPoint e_r4) fy_Mo_isPoint fst_Mo_isPoint k_175 ⟨rfl, rfl⟩ ⟨Nat.le_of_ble_eq_true rfl, Nat.le_of_ble_eq_true rfl⟩ ⟨Nat.zero_le _, Nat.zero_le _⟩ rfl hl.1 rfl (Nat.le_of_ble_eq_true rfl) d_Mo_place_16 (fun H locs hI => ?_)
    refine lv_if_eq (tgt := 31) hx hb d_Mo_place_19 (by decide) (fun c_19 => ?_) (fun c_19 => ?_)
    · replace hf := fh_t c_19 hf
      refine lv_bipush (v := (-2)) hx hb d_Mo_place_31 (by decide) ?_
      obtain rfl := Option.some.inj hf
      exact fh_iret S hr hk rfl hAe hI d_Mo_place_33
    · replace hf := fh_f c_19 hf
      refine lv_iload_n hx hb d_Mo_place_22 rfl (lv_at hl 3 rfl) ?_
      refine lv_iconst (v := 0) hx hb d_Mo_place_23 (by decide) ?_
      refine lv_iconst (v := 1) hx hb d_Mo_place_24 (by decide) ?_
      obtain ⟨r5, e_r5, hf⟩ := fh_b hf
      refine fh_callS (As := [.int a3, .int 0, .int 1]) (rest := []) S fT_good hE hI (c_Mo_isIn e_r5) fy_Mo_isIn fst_Mo_isIn k_172 ⟨rfl, rfl⟩ ⟨Nat.le_of_ble_eq_true rfl, Nat.le_of_ble_eq_true rfl⟩ ⟨Nat.zero_le _, Nat.zero_le _⟩ rfl hl.1 rfl (Nat.le_of_ble_eq_true rfl) d_Mo_place_25 (fun H locs hI => ?_)
      refine lv_if_ne (tgt := 34) hx hb d_Mo_place_28 (by decide) (fun c_28 => ?_) (fun c_28 => ?_)
      · replace hf := fh_f c_28 hf
        refine fh_aload_n S d_Mo_place_34 rfl (lv_at hl 0 rfl) ?_
        obtain ⟨x6, e_x6, hf⟩ := fh_b hf
        refine fh_geta S hE.1 hI e_x6 (hc := rfl) (hin := in_6) (by decide) (hts _ k_162) d_Mo_place_35 ?_
        refine lv_iload_n hx hb d_Mo_place_38 rfl (lv_at hl 1 rfl) ?_
        obtain ⟨x7, e_x7, hf⟩ := fh_b hf
        refine fh_iald S hE.1 hI 0 rfl e_x7 d_Mo_place_39 ?_
        refine lv_iconst (v := (-1)) hx hb d_Mo_place_40 (by decide) ?_
        refine lv_icmp_eq (tgt := 56) hx hb d_Mo_place_41 (by decide) (fun c_41 => ?_) (fun c_41 => ?_)
        · replace hf := fh_t c_41 hf
          exact B56 a1 a2 a3 r5.2 _ _ _ (lv_sub hl [0, 1, 2, 3] rfl) hI hf
        · replace hf := fh_f c_41 hf
          refine fh_aload_n S d_Mo_place_44 rfl (lv_at hl 0 rfl) ?_
          obtain ⟨x8, e_x8, hf⟩ := fh_b hf
          refine fh_geta S hE.1 hI e_x8 (hc := rfl) (hin := in_6) (by decide) (hts _ k_162) d_Mo_place_45 ?_
          refine lv_iload_n hx hb d_Mo_place_48 rfl (lv_at hl 1 rfl) ?_
          obtain ⟨x9, e_x9, hf⟩ := fh_b hf
          refine fh_iald S hE.1 hI 0 rfl e_x9 d_Mo_place_49 ?_
          refine lv_iload_n hx hb d_Mo_place_50 rfl (lv_at hl 2 rfl) ?_
          refine lv_icmp_gt (tgt := 56) hx hb d_Mo_place_51 (by decide) (fun c_51 => ?_) (fun c_51 => ?_)
          · replace hf := fh_t c_51 hf
            exact B56 a1 a2 a3 r5.2 _ _ _ (lv_sub hl [0, 1, 2, 3] rfl) hI hf
          · replace hf := fh_f c_51 hf
            refine lv_iconst (v := (-1)) hx hb d_Mo_place_54 (by decide) ?_
            obtain rfl := Option.some.inj hf
            exact fh_iret S hr hk rfl hAe hI d_Mo_place_55
      · replace hf := fh_t c_28 hf
        refine lv_bipush (v := (-2)) hx hb d_Mo_place_31 (by decide) ?_
        obtain rfl := Option.some.inj hf
        exact fh_iret S hr hk rfl hAe hI d_Mo_place_33
theorem d_Mo_isHeld_0 : decode c0_Mo_isHeld 0 = .ok (.iload_n 1, 1) := by decide +kernel
theorem d_Mo_isHeld_1 : decode c0_Mo_isHeld 1 = .ok (.bipush 8, 2) := by decide +kernel
theorem d_Mo_isHeld_3 : decode c0_Mo_isHeld 3 = .ok (.if_icmp .ge 11, 3) := by decide +kernel
theorem d_Mo_isHeld_6 : decode c0_Mo_isHeld 6 = .ok (.aload_n 0, 1) := by decide +kernel
theorem d_Mo_isHeld_7 : decode c0_Mo_isHeld 7 = .ok (.iload_n 1, 1) := by decide +kernel
theorem d_Mo_isHeld_8 : decode c0_Mo_isHeld 8 = .ok (.iconst 0, 1) := by decide +kernel
theorem d_Mo_isHeld_9 : decode c0_Mo_isHeld 9 = .ok (.iconst 0, 1) := by decide +kernel
theorem d_Mo_isHeld_10 : decode c0_Mo_isHeld 10 = .ok (.invokevirtual 185, 3) := by decide +kernel
theorem d_Mo_isHeld_13 : decode c0_Mo_isHeld 13 = .ok (.ireturn, 1) := by decide +kernel
theorem d_Mo_isHeld_14 : decode c0_Mo_isHeld 14 = .ok (.aload_n 0, 1) := by decide +kernel
theorem d_Mo_isHeld_15 : decode c0_Mo_isHeld 15 = .ok (.iconst 0, 1) := by decide +kernel
theorem d_Mo_isHeld_16 : decode c0_Mo_isHeld 16 = .ok (.putfield 188, 3) := by decide +kernel
theorem d_Mo_isHeld_19 : decode c0_Mo_isHeld 19 = .ok (.iconst 1, 1) := by decide +kernel
theorem d_Mo_isHeld_20 : decode c0_Mo_isHeld 20 = .ok (.istore_n 2, 1) := by decide +kernel
theorem d_Mo_isHeld_21 : decode c0_Mo_isHeld 21 = .ok (.iload_n 2, 1) := by decide +kernel
theorem d_Mo_isHeld_22 : decode c0_Mo_isHeld 22 = .ok (.bipush 10, 2) := by decide +kernel
theorem d_Mo_isHeld_24 : decode c0_Mo_isHeld 24 = .ok (.if_icmp .ge 63, 3) := by decide +kernel
theorem d_Mo_isHeld_27 : decode c0_Mo_isHeld 27 = .ok (.aload_n 0, 1) := by decide +kernel
theorem d_Mo_isHeld_28 : decode c0_Mo_isHeld 28 = .ok (.getfield 188, 3) := by decide +kernel
theorem d_Mo_isHeld_31 : decode c0_Mo_isHeld 31 = .ok (.ifCond .ne 56, 3) := by decide +kernel
theorem d_Mo_isHeld_34 : decode c0_Mo_isHeld 34 = .ok (.iconst 1, 1) := by decide +kernel
theorem d_Mo_isHeld_35 : decode c0_Mo_isHeld 35 = .ok (.istore_n 3, 1) := by decide +kernel
theorem d_Mo_isHeld_36 : decode c0_Mo_isHeld 36 = .ok (.iload_n 3, 1) := by decide +kernel
theorem d_Mo_isHeld_37 : decode c0_Mo_isHeld 37 = .ok (.bipush 10, 2) := by decide +kernel
theorem d_Mo_isHeld_39 : decode c0_Mo_isHeld 39 = .ok (.if_icmp .ge 42, 3) := by decide +kernel
theorem d_Mo_isHeld_42 : decode c0_Mo_isHeld 42 = .ok (.aload_n 0, 1) := by decide +kernel
theorem d_Mo_isHeld_43 : decode c0_Mo_isHeld 43 = .ok (.getfield 188, 3) := by decide +kernel
theorem d_Mo_isHeld_46 : decode c0_Mo_isHeld 46 = .ok (.ifCond .ne 35, 3) := by decide +kernel
theorem d_Mo_isHeld_49 : decode c0_Mo_isHeld 49 = .ok (.iload_n 2, 1) := by decide +kernel
theorem d_Mo_isHeld_50 : decode c0_Mo_isHeld 50 = .ok (.iload_n 3, 1) := by decide +kernel
theorem d_Mo_isHeld_51 : decode c0_Mo_isHeld 51 = .ok (.if_icmp .eq 24, 3) := by decide +kernel
theorem d_Mo_isHeld_54 : decode c0_Mo_isHeld 54 = .ok (.aload_n 0, 1) := by decide +kernel
theorem d_Mo_isHeld_55 : decode c0_Mo_isHeld 55 = .ok (.bipush 8, 2) := by decide +kernel
theorem d_Mo_isHeld_57 : decode c0_Mo_isHeld 57 = .ok (.iload_n 2, 1) := by decide +kernel
theorem d_Mo_isHeld_58 : decode c0_Mo_isHeld 58 = .ok (.iload_n 3, 1) := by decide +kernel
theorem d_Mo_isHeld_59 : decode c0_Mo_isHeld 59 = .ok (.invokevirtual 185, 3) := by decide +kernel
theorem d_Mo_isHeld_62 : decode c0_Mo_isHeld 62 = .ok (.ifCond .eq 13, 3) := by decide +kernel
theorem d_Mo_isHeld_65 : decode c0_Mo_isHeld 65 = .ok (.aload_n 0, 1) := by decide +kernel
theorem d_Mo_isHeld_66 : decode c0_Mo_isHeld 66 = .ok (.iload_n 2, 1) := by decide +kernel
theorem d_Mo_isHeld_67 : decode c0_Mo_isHeld 67 = .ok (.putfield 188, 3) := by decide +kernel
theorem d_Mo_isHeld_70 : decode c0_Mo_isHeld 70 = .ok (.aload_n 0, 1) := by decide +kernel
theorem d_Mo_isHeld_71 : decode c0_Mo_isHeld 71 = .ok (.iload_n 3, 1) := by decide +kernel
theorem d_Mo_isHeld_72 : decode c0_Mo_isHeld 72 = .ok (.putfield 191, 3) := by decide +kernel
theorem d_Mo_isHeld_75 : decode c0_Mo_isHeld 75 = .ok (.iinc 3 1, 3) := by decide +kernel
theorem d_Mo_isHeld_78 : decode c0_Mo_isHeld 78 = .ok (.goto (-42), 3) := by decide +kernel
theorem d_Mo_isHeld_81 : decode c0_Mo_isHeld 81 = .ok (.iinc 2 1, 3) := by decide +kernel
theorem d_Mo_isHeld_84 : decode c0_Mo_isHeld 84 = .ok (.goto (-63), 3) := by decide +kernel
theorem d_Mo_isHeld_87 : decode c0_Mo_isHeld 87 = .ok (.aload_n 0, 1) := by decide +kernel
theorem d_Mo_isHeld_88 : decode c0_Mo_isHeld 88 = .ok (.getfield 188, 3) := by decide +kernel
theorem d_Mo_isHeld_91 : decode c0_Mo_isHeld 91 = .ok (.ifCond .le 7, 3) := by decide +kernel
theorem d_Mo_isHeld_94 : decode c0_Mo_isHeld 94 = .ok (.iconst 1, 1) := by decide +kernel
theorem d_Mo_isHeld_95 : decode c0_Mo_isHeld 95 = .ok (.goto 4, 3) := by decide +kernel
theorem d_Mo_isHeld_98 : decode c0_Mo_isHeld 98 = .ok (.iconst 0, 1) := by decide +kernel
theorem d_Mo_isHeld_99 : decode c0_Mo_isHeld 99 = .ok (.ireturn, 1) := by decide +kernel
def b_Mo_isHeld_87 (K : Nat → ClassId) (N : Nat) (o : Nat)  (h : fh_H) : Option (Int32 × fh_H) :=
  (fg_i h (some o) 6 14).bind fun x1 => if x1 ≤ 0 then (some (0, h)) else (some (1, h))
def b_Mo_isHeld_81 (K : Nat → ClassId) (N : Nat) (k21 : Int32 → fh_H → Option (Int32 × fh_H)) (o : Nat) (v2 : Int32) (h : fh_H) : Option (Int32 × fh_H) :=
  (some (v2 + 1)).bind fun x1 => k21 x1 h
def b_Mo_isHeld_75 (K : Nat → ClassId) (N : Nat) (k21 : Int32 → fh_H → Option (Int32 × fh_H)) (k36 : Int32 → Int32 → fh_H → Option (Int32 × fh_H)) (o : Nat) (v2 : Int32) (v3 : Int32) (h : fh_H) : Option (Int32 × fh_H) :=
  (some (v3 + 1)).bind fun x1 => k36 v2 x1 h
def b_Mo_isHeld_36 (K : Nat → ClassId) (N : Nat) (k21 : Int32 → fh_H → Option (Int32 × fh_H)) (k36 : Int32 → Int32 → fh_H → Option (Int32 × fh_H)) (o : Nat) (v2 : Int32) (v3 : Int32) (h : fh_H) : Option (Int32 × fh_H) :=
  if 10 ≤ v3 then (b_Mo_isHeld_81 K N k21 o v2 h) else ((fg_i h (some o) 6 14).bind fun x1 => if x1 = 0 then (if v2 = v3 then (b_Mo_isHeld_75 K N k21 k36 o v2 v3 h) else ((fg_o h (some o) 6).bind fun o2 => (f_Mo_isAlways K N o2 8 v2 v3 h).bind fun r3 => if r3.1 = 0 then (b_Mo_isHeld_75 K N k21 k36 o v2 v3 r3.2) else ((fp_v r3.2 (some o) 6 14 (.int v2)).bind fun h4 => (fp_v h4 (some o) 6 15 (.int v3)).bind fun h5 => b_Mo_isHeld_75 K N k21 k36 o v2 v3 h5))) else (b_Mo_isHeld_81 K N k21 o v2 h))
def l_Mo_isHeld_36 (K : Nat → ClassId) (N : Nat) (k21 : Int32 → fh_H → Option (Int32 × fh_H)) (o : Nat) : Nat → Int32 → Int32 → fh_H → Option (Int32 × fh_H)
  | 0, _, _, _ => none
  | n + 1, v2, v3, h => b_Mo_isHeld_36 K N k21 (l_Mo_isHeld_36 K N k21 o n) o v2 v3 h
def b_Mo_isHeld_21 (K : Nat → ClassId) (N : Nat) (k21 : Int32 → fh_H → Option (Int32 × fh_H)) (o : Nat) (v2 : Int32) (h : fh_H) : Option (Int32 × fh_H) :=
  if 10 ≤ v2 then (b_Mo_isHeld_87 K N o h) else ((fg_i h (some o) 6 14).bind fun x1 => if x1 = 0 then (l_Mo_isHeld_36 K N k21 o N v2 1 h) else (b_Mo_isHeld_87 K N o h))
def l_Mo_isHeld_21 (K : Nat → ClassId) (N : Nat) (o : Nat) : Nat → Int32 → fh_H → Option (Int32 × fh_H)
  | 0, _, _ => none
  | n + 1, v2, h => b_Mo_isHeld_21 K N (l_Mo_isHeld_21 K N o n) o v2 h
def f_Mo_isHeld (K : Nat → ClassId) (N : Nat) (o : Nat) (a1 : Int32) (h0 : fh_H) : Option (Int32 × fh_H) :=
  if 8 ≤ a1 then ((fp_v h0 (some o) 6 14 (.int 0)).bind fun h1 => l_Mo_isHeld_21 K N o N 1 h1) else ((fg_o h0 (some o) 6).bind fun o2 => (f_Mo_isAlways K N o2 a1 0 0 h0).bind fun r3 => fz r3.1 r3.2)
set_option maxHeartbeats 4000000 in
set_option maxRecDepth 100000 in
theorem c_Mo_isHeld {l : Launch} {D : va_G} {K : Nat → ClassId} {t : Nat → Nat} {N : Nat} {o : Nat} {a1 : Int32} {h0 : fh_H} {res : Int32 × fh_H} (hf : f_Mo_isHeld K N o a1 h0 = some res) : fC l D K t y_Mo_isHeld c0_Mo_isHeld 4 (some .boolean) rm_Mo_isHeld [.ref o, .int a1] h0 (some (.int res.1)) res.2 := by
  refine fh_body (by decide) (Nat.le_of_ble_eq_true rfl) ?_
  intro p e s m below meth c A ls S hr hk hnm hE hAe hI hl
  obtain ⟨hx, hb, hml, hown, hts⟩ := id S
  have hl : lv_has ls 4 [(0, va_rf (some o)), (1, .int a1)] := hl
  have B87 : ∀  (h : fh_H) (H : Heap) (locs : List Loc) (ls : Array Slot), lv_has ls 4 [(0, va_rf (some o))] → fh_I D classes A s.heap h H locs → b_Mo_isHeld_87 K N o  h = some res → W p l e rm_Mo_isHeld s m [.ref o, .int a1].toArray below meth c H locs 0 0 (MQ below (fh_Q D classes h0 s.heap.size (some (.int res.1)) res.2) [.ref o, .int a1].toArray s 0 0 A) (F0 m 87 ls []) := by
    intro  h H locs ls hl hI hf
    unfold b_Mo_isHeld_87 at hf
    refine fh_aload_n S d_Mo_isHeld_87 rfl (lv_at hl 0 rfl) ?_
    obtain ⟨x1, e_x1, hf⟩ := fh_b hf
    refine fh_geti S hE.1 hI e_x1 (hc := rfl) (hin := in_6) (by decide) (hts _ k_189) d_Mo_isHeld_88 ?_
    refine lv_if_le (tgt := 98) hx hb d_Mo_isHeld_91 (by decide) (fun c_91 => ?_) (fun c_91 => ?_)
    · replace hf := fh_t c_91 hf
      refine lv_iconst (v := 0) hx hb d_Mo_isHeld_98 (by decide) ?_
      obtain rfl := Option.some.inj hf
      exact fh_iret S hr hk (fh_nb (Or.inl rfl)) hAe hI d_Mo_isHeld_99
    · replace hf := fh_f c_91 hf
      refine lv_iconst (v := 1) hx hb d_Mo_isHeld_94 (by decide) ?_
      refine lv_goto (tgt := 99) hx hb d_Mo_isHeld_95 (by decide) ?_
      obtain rfl := Option.some.inj hf
      exact fh_iret S hr hk (fh_nb (Or.inr rfl)) hAe hI d_Mo_isHeld_99
  have L21 : ∀ (n21 : Nat) (v2 : Int32) (h : fh_H) (H : Heap) (locs : List Loc) (ls : Array Slot), lv_has ls 4 [(0, va_rf (some o)), (2, .int v2)] → fh_I D classes A s.heap h H locs → l_Mo_isHeld_21 K N o n21 v2 h = some res → W p l e rm_Mo_isHeld s m [.ref o, .int a1].toArray below meth c H locs 0 0 (MQ below (fh_Q D classes h0 s.heap.size (some (.int res.1)) res.2) [.ref o, .int a1].toArray s 0 0 A) (F0 m 21 ls []) := by
    intro n21
    induction n21 with
    | zero =>
      intro v2 h H locs ls hl hI hf
      exact fh_no hf
    | succ n21 ih21 =>
      have B81 : ∀ (v2 : Int32) (h : fh_H) (H : Heap) (locs : List Loc) (ls : Array Slot), lv_has ls 4 [(0, va_rf (some o)), (2, .int v2)] → fh_I D classes A s.heap h H locs → b_Mo_isHeld_81 K N (l_Mo_isHeld_21 K N o n21) o v2 h = some res → W p l e rm_Mo_isHeld s m [.ref o, .int a1].toArray below meth c H locs 0 0 (MQ below (fh_Q D classes h0 s.heap.size (some (.int res.1)) res.2) [.ref o, .int a1].toArray s 0 0 A) (F0 m 81 ls []) := by
        intro v2 h H locs ls hl hI hf
        unfold b_Mo_isHeld_81 at hf
        obtain ⟨x1, e_x1, hf⟩ := fh_b hf
        refine lv_iinc (v := x1) (lv' := [(2, .int x1), (0, va_rf (some o))]) hx hb d_Mo_isHeld_81 hl (k := 1) rfl (by rw [fh_qe e_x1]; rfl) (by decide) rfl (fun ls hl => ?_)
        refine lv_goto (tgt := 21) hx hb d_Mo_isHeld_84 (by decide) ?_
        exact ih21 x1 h _ _ _ (lv_sub hl [1, 0] rfl) hI hf
      have L36 : ∀ (n36 : Nat) (v2 : Int32) (v3 : Int32) (h : fh_H) (H : Heap) (locs : List Loc) (ls : Array Slot), lv_has ls 4 [(0, va_rf (some o)), (2, .int v2), (3, .int v3)] → fh_I D classes A s.heap h H locs → l_Mo_isHeld_36 K N (l_Mo_isHeld_21 K N o n21) o n36 v2 v3 h = some res → W p l e rm_Mo_isHeld s m [.ref o, .int a1].toArray below meth c H locs 0 0 (MQ below (fh_Q D classes h0 s.heap.size (some (.int res.1)) res.2) [.ref o, .int a1].toArray s 0 0 A) (F0 m 36 ls []) := by
        intro n36
        induction n36 with
        | zero =>
          intro v2 v3 h H locs ls hl hI hf
          exact fh_no hf
        | succ n36 ih36 =>
          have B75 : ∀ (v2 : Int32) (v3 : Int32) (h : fh_H) (H : Heap) (locs : List Loc) (ls : Array Slot), lv_has ls 4 [(0, va_rf (some o)), (2, .int v2), (3, .int v3)] → fh_I D classes A s.heap h H locs → b_Mo_isHeld_75 K N (l_Mo_isHeld_21 K N o n21) (l_Mo_isHeld_36 K N (l_Mo_isHeld_21 K N o n21) o n36) o v2 v3 h = some res → W p l e rm_Mo_isHeld s m [.ref o, .int a1].toArray below meth c H locs 0 0 (MQ below (fh_Q D classes h0 s.heap.size (some (.int res.1)) res.2) [.ref o, .int a1].toArray s 0 0 A) (F0 m 75 ls []) := by
            intro v2 v3 h H locs ls hl hI hf
            unfold b_Mo_isHeld_75 at hf
            obtain ⟨x1, e_x1, hf⟩ := fh_b hf
            refine lv_iinc (v := x1) (lv' := [(3, .int x1), (0, va_rf (some o)), (2, .int v2)]) hx hb d_Mo_isHeld_75 hl (k := 2) rfl (by rw [fh_qe e_x1]; rfl) (by decide) rfl (fun ls hl => ?_)
            refine lv_goto (tgt := 36) hx hb d_Mo_isHeld_78 (by decide) ?_
            exact ih36 v2 x1 h _ _ _ (lv_sub hl [1, 2, 0] rfl) hI hf
          intro v2 v3 h H locs ls hl hI hf
          have hf : b_Mo_isHeld_36 K N (l_Mo_isHeld_21 K N o n21) (l_Mo_isHeld_36 K N (l_Mo_isHeld_21 K N o n21) o n36) o v2 v3 h = some res := hf
          unfold b_Mo_isHeld_36 at hf
          refine lv_iload_n hx hb d_Mo_isHeld_36 rfl (lv_at hl 2 rfl) ?_
          refine lv_bipush (v := 10) hx hb d_Mo_isHeld_37 (by decide) ?_
          refine lv_icmp_ge (tgt := 81) hx hb d_Mo_isHeld_39 (by decide) (fun c_39 => ?_) (fun c_39 => ?_)
          · replace hf := fh_t c_39 hf
            exact B81 v2 h _ _ _ (lv_sub hl [0, 1] rfl) hI hf
          · replace hf := fh_f c_39 hf
            refine fh_aload_n S d_Mo_isHeld_42 rfl (lv_at hl 0 rfl) ?_
            obtain ⟨x1, e_x1, hf⟩ := fh_b hf
            refine fh_geti S hE.1 hI e_x1 (hc := rfl) (hin := in_6) (by decide) (hts _ k_189) d_Mo_isHeld_43 ?_
            refine lv_if_ne (tgt := 81) hx hb d_Mo_isHeld_46 (by decide) (fun c_46 => ?_) (fun c_46 => ?_)
            · replace hf := fh_f c_46 hf
              exact B81 v2 h _ _ _ (lv_sub hl [0, 1] rfl) hI hf
            · replace hf := fh_t c_46 hf
              refine lv_iload_n hx hb d_Mo_isHeld_49 rfl (lv_at hl 1 rfl) ?_
              refine lv_iload_n hx hb d_Mo_isHeld_50 rfl (lv_at hl 2 rfl) ?_
              refine lv_icmp_eq (tgt := 75) hx hb d_Mo_isHeld_51 (by decide) (fun c_51 => ?_) (fun c_51 => ?_)
              · replace hf := fh_t c_51 hf
                exact B75 v2 v3 h _ _ _ (lv_sub hl [0, 1, 2] rfl) hI hf
              · replace hf := fh_f c_51 hf
                refine fh_aload_n S d_Mo_isHeld_54 rfl (lv_at hl 0 rfl) ?_
                refine lv_bipush (v := 8) hx hb d_Mo_isHeld_55 (by decide) ?_
                refine lv_iload_n hx hb d_Mo_isHeld_57 rfl (lv_at hl 1 rfl) ?_
                refine lv_iload_n hx hb d_Mo_isHeld_58 rfl (lv_at hl 2 rfl) ?_
                obtain ⟨o2, e_o2, hf⟩ := fh_b hf
                obtain ⟨r3, e_r3, hf⟩ := fh_b hf
                refine fh_callV (As := [.int 8, .int v2, .int v3]) (rest := []) S fT_good hE hI e_o2 rfl (c_Mo_isAlways e_r3) fy_Mo_isAlways fst_Mo_isAlways k_186 ⟨rfl, rfl⟩ ⟨Nat.le_of_ble_eq_true rfl, Nat.le_of_ble_eq_true rfl⟩ ⟨Nat.zero_le _, Nat.zero_le _⟩ rfl hl.1 rfl (Nat.le_of_ble_eq_true rfl) d_Mo_isHeld_59 (fun H locs hI => ?_)
                refine lv_if_eq (tgt := 75) hx hb d_Mo_isHeld_62 (by decide) (fun c_62 => ?_) (fun c_62 => ?_)
                · replace hf := fh_t c_62 hf
                  exact B75 v2 v3 r3.2 _ _ _ (lv_sub hl [0, 1, 2] rfl) hI hf
                · replace hf := fh_f c_62 hf
                  refine fh_aload_n S d_Mo_isHeld_65 rfl (lv_at hl 0 rfl) ?_
                  refine lv_iload_n hx hb d_Mo_isHeld_66 rfl (lv_at hl 1 rfl) ?_
                  obtain ⟨h4, e_h4, hf⟩ := fh_b hf
                  refine fh_putv S hE.1 hI e_h4 (hc := rfl) (hin := in_6) tok_6 nok_6 (by decide) (hts _ k_189) rfl rfl rfl d_Mo_isHeld_67 (fun H locs hI => ?_)
                  refine fh_aload_n S d_Mo_isHeld_70 rfl (lv_at hl 0 rfl) ?_
                  refine lv_iload_n hx hb d_Mo_isHeld_71 rfl (lv_at hl 2 rfl) ?_
                  obtain ⟨h5, e_h5, hf⟩ := fh_b hf
                  refine fh_putv S hE.1 hI e_h5 (hc := rfl) (hin := in_6) tok_6 nok_6 (by decide) (hts _ k_190) rfl rfl rfl d_Mo_isHeld_72 (fun H locs hI => ?_)
                  exact B75 v2 v3 h5 _ _ _ (lv_sub hl [0, 1, 2] rfl) hI hf
      intro v2 h H locs ls hl hI hf
      have hf : b_Mo_isHeld_21 K N (l_Mo_isHeld_21 K N o n21) o v2 h = some res := hf
      unfold b_Mo_isHeld_21 at hf
      refine lv_iload_n hx hb d_Mo_isHeld_21 rfl (lv_at hl 1 rfl) ?_
      refine lv_bipush (v := 10) hx hb d_Mo_isHeld_22 (by decide) ?_
      refine lv_icmp_ge (tgt := 87) hx hb d_Mo_isHeld_24 (by decide) (fun c_24 => ?_) (fun c_24 => ?_)
      · replace hf := fh_t c_24 hf
        exact B87 h _ _ _ (lv_sub hl [0] rfl) hI hf
      · replace hf := fh_f c_24 hf
        refine fh_aload_n S d_Mo_isHeld_27 rfl (lv_at hl 0 rfl) ?_
        obtain ⟨x1, e_x1, hf⟩ := fh_b hf
        refine fh_geti S hE.1 hI e_x1 (hc := rfl) (hin := in_6) (by decide) (hts _ k_189) d_Mo_isHeld_28 ?_
        refine lv_if_ne (tgt := 87) hx hb d_Mo_isHeld_31 (by decide) (fun c_31 => ?_) (fun c_31 => ?_)
        · replace hf := fh_f c_31 hf
          exact B87 h _ _ _ (lv_sub hl [0] rfl) hI hf
        · replace hf := fh_t c_31 hf
          refine lv_iconst (v := 1) hx hb d_Mo_isHeld_34 (by decide) ?_
          refine lv_istore_n (lv' := [(3, .int 1), (0, va_rf (some o)), (2, .int v2)]) hx hb d_Mo_isHeld_35 rfl hl (by decide) rfl (fun ls hl => ?_)
          exact L36 N v2 1 h _ _ _ (lv_sub hl [1, 2, 0] rfl) hI hf
  unfold f_Mo_isHeld at hf
  refine lv_iload_n hx hb d_Mo_isHeld_0 rfl (lv_at hl 1 rfl) ?_
  refine lv_bipush (v := 8) hx hb d_Mo_isHeld_1 (by decide) ?_
  refine lv_icmp_ge (tgt := 14) hx hb d_Mo_isHeld_3 (by decide) (fun c_3 => ?_) (fun c_3 => ?_)
  · replace hf := fh_t c_3 hf
    refine fh_aload_n S d_Mo_isHeld_14 rfl (lv_at hl 0 rfl) ?_
    refine lv_iconst (v := 0) hx hb d_Mo_isHeld_15 (by decide) ?_
    obtain ⟨h1, e_h1, hf⟩ := fh_b hf
    refine fh_putv S hE.1 hI e_h1 (hc := rfl) (hin := in_6) tok_6 nok_6 (by decide) (hts _ k_189) rfl rfl rfl d_Mo_isHeld_16 (fun H locs hI => ?_)
    refine lv_iconst (v := 1) hx hb d_Mo_isHeld_19 (by decide) ?_
    refine lv_istore_n (lv' := [(2, .int 1), (0, va_rf (some o)), (1, .int a1)]) hx hb d_Mo_isHeld_20 rfl hl (by decide) rfl (fun ls hl => ?_)
    exact L21 N 1 h1 _ _ _ (lv_sub hl [1, 0] rfl) hI hf
  · replace hf := fh_f c_3 hf
    refine fh_aload_n S d_Mo_isHeld_6 rfl (lv_at hl 0 rfl) ?_
    refine lv_iload_n hx hb d_Mo_isHeld_7 rfl (lv_at hl 1 rfl) ?_
    refine lv_iconst (v := 0) hx hb d_Mo_isHeld_8 (by decide) ?_
    refine lv_iconst (v := 0) hx hb d_Mo_isHeld_9 (by decide) ?_
    obtain ⟨o2, e_o2, hf⟩ := fh_b hf
    obtain ⟨r3, e_r3, hf⟩ := fh_b hf
    refine fh_callV (As := [.int a1, .int 0, .int 0]) (rest := []) S fT_good hE hI e_o2 rfl (c_Mo_isAlways e_r3) fy_Mo_isAlways fst_Mo_isAlways k_186 ⟨rfl, rfl⟩ ⟨Nat.le_of_ble_eq_true rfl, Nat.le_of_ble_eq_true rfl⟩ ⟨Nat.zero_le _, Nat.zero_le _⟩ rfl hl.1 rfl (Nat.le_of_ble_eq_true rfl) d_Mo_isHeld_10 (fun H locs hI => ?_)
    obtain ⟨hz, rfl⟩ := fz_s hf
    exact fh_iret S hr hk (fh_nb hz) hAe hI d_Mo_isHeld_13
theorem d_Mo_isBefore_0 : decode c0_Mo_isBefore 0 = .ok (.aload_n 0, 1) := by decide +kernel
theorem d_Mo_isBefore_1 : decode c0_Mo_isBefore 1 = .ok (.getfield 33, 3) := by decide +kernel
theorem d_Mo_isBefore_4 : decode c0_Mo_isBefore 4 = .ok (.iconst 0, 1) := by decide +kernel
theorem d_Mo_isBefore_5 : decode c0_Mo_isBefore 5 = .ok (.iaload, 1) := by decide +kernel
theorem d_Mo_isBefore_6 : decode c0_Mo_isBefore 6 = .ok (.aload_n 0, 1) := by decide +kernel
theorem d_Mo_isBefore_7 : decode c0_Mo_isBefore 7 = .ok (.getfield 33, 3) := by decide +kernel
theorem d_Mo_isBefore_10 : decode c0_Mo_isBefore 10 = .ok (.iconst 3, 1) := by decide +kernel
theorem d_Mo_isBefore_11 : decode c0_Mo_isBefore 11 = .ok (.iaload, 1) := by decide +kernel
theorem d_Mo_isBefore_12 : decode c0_Mo_isBefore 12 = .ok (.if_icmp .eq 26, 3) := by decide +kernel
theorem d_Mo_isBefore_15 : decode c0_Mo_isBefore 15 = .ok (.aload_n 0, 1) := by decide +kernel
theorem d_Mo_isBefore_16 : decode c0_Mo_isBefore 16 = .ok (.getfield 33, 3) := by decide +kernel
theorem d_Mo_isBefore_19 : decode c0_Mo_isBefore 19 = .ok (.iconst 0, 1) := by decide +kernel
theorem d_Mo_isBefore_20 : decode c0_Mo_isBefore 20 = .ok (.iaload, 1) := by decide +kernel
theorem d_Mo_isBefore_21 : decode c0_Mo_isBefore 21 = .ok (.aload_n 0, 1) := by decide +kernel
theorem d_Mo_isBefore_22 : decode c0_Mo_isBefore 22 = .ok (.getfield 33, 3) := by decide +kernel
theorem d_Mo_isBefore_25 : decode c0_Mo_isBefore 25 = .ok (.iconst 3, 1) := by decide +kernel
theorem d_Mo_isBefore_26 : decode c0_Mo_isBefore 26 = .ok (.iaload, 1) := by decide +kernel
theorem d_Mo_isBefore_27 : decode c0_Mo_isBefore 27 = .ok (.if_icmp .ge 7, 3) := by decide +kernel
theorem d_Mo_isBefore_30 : decode c0_Mo_isBefore 30 = .ok (.iconst 1, 1) := by decide +kernel
theorem d_Mo_isBefore_31 : decode c0_Mo_isBefore 31 = .ok (.goto 65, 3) := by decide +kernel
theorem d_Mo_isBefore_34 : decode c0_Mo_isBefore 34 = .ok (.iconst 0, 1) := by decide +kernel
theorem d_Mo_isBefore_35 : decode c0_Mo_isBefore 35 = .ok (.goto 61, 3) := by decide +kernel
theorem d_Mo_isBefore_38 : decode c0_Mo_isBefore 38 = .ok (.aload_n 0, 1) := by decide +kernel
theorem d_Mo_isBefore_39 : decode c0_Mo_isBefore 39 = .ok (.getfield 33, 3) := by decide +kernel
theorem d_Mo_isBefore_42 : decode c0_Mo_isBefore 42 = .ok (.iconst 1, 1) := by decide +kernel
theorem d_Mo_isBefore_43 : decode c0_Mo_isBefore 43 = .ok (.iaload, 1) := by decide +kernel
theorem d_Mo_isBefore_44 : decode c0_Mo_isBefore 44 = .ok (.aload_n 0, 1) := by decide +kernel
theorem d_Mo_isBefore_45 : decode c0_Mo_isBefore 45 = .ok (.getfield 33, 3) := by decide +kernel
theorem d_Mo_isBefore_48 : decode c0_Mo_isBefore 48 = .ok (.iconst 4, 1) := by decide +kernel
theorem d_Mo_isBefore_49 : decode c0_Mo_isBefore 49 = .ok (.iaload, 1) := by decide +kernel
theorem d_Mo_isBefore_50 : decode c0_Mo_isBefore 50 = .ok (.if_icmp .eq 26, 3) := by decide +kernel
theorem d_Mo_isBefore_53 : decode c0_Mo_isBefore 53 = .ok (.aload_n 0, 1) := by decide +kernel
theorem d_Mo_isBefore_54 : decode c0_Mo_isBefore 54 = .ok (.getfield 33, 3) := by decide +kernel
theorem d_Mo_isBefore_57 : decode c0_Mo_isBefore 57 = .ok (.iconst 1, 1) := by decide +kernel
theorem d_Mo_isBefore_58 : decode c0_Mo_isBefore 58 = .ok (.iaload, 1) := by decide +kernel
theorem d_Mo_isBefore_59 : decode c0_Mo_isBefore 59 = .ok (.aload_n 0, 1) := by decide +kernel
theorem d_Mo_isBefore_60 : decode c0_Mo_isBefore 60 = .ok (.getfield 33, 3) := by decide +kernel
theorem d_Mo_isBefore_63 : decode c0_Mo_isBefore 63 = .ok (.iconst 4, 1) := by decide +kernel
theorem d_Mo_isBefore_64 : decode c0_Mo_isBefore 64 = .ok (.iaload, 1) := by decide +kernel
theorem d_Mo_isBefore_65 : decode c0_Mo_isBefore 65 = .ok (.if_icmp .ge 7, 3) := by decide +kernel
theorem d_Mo_isBefore_68 : decode c0_Mo_isBefore 68 = .ok (.iconst 1, 1) := by decide +kernel
theorem d_Mo_isBefore_69 : decode c0_Mo_isBefore 69 = .ok (.goto 27, 3) := by decide +kernel
theorem d_Mo_isBefore_72 : decode c0_Mo_isBefore 72 = .ok (.iconst 0, 1) := by decide +kernel
theorem d_Mo_isBefore_73 : decode c0_Mo_isBefore 73 = .ok (.goto 23, 3) := by decide +kernel
theorem d_Mo_isBefore_76 : decode c0_Mo_isBefore 76 = .ok (.aload_n 0, 1) := by decide +kernel
theorem d_Mo_isBefore_77 : decode c0_Mo_isBefore 77 = .ok (.getfield 33, 3) := by decide +kernel
theorem d_Mo_isBefore_80 : decode c0_Mo_isBefore 80 = .ok (.iconst 2, 1) := by decide +kernel
theorem d_Mo_isBefore_81 : decode c0_Mo_isBefore 81 = .ok (.iaload, 1) := by decide +kernel
theorem d_Mo_isBefore_82 : decode c0_Mo_isBefore 82 = .ok (.aload_n 0, 1) := by decide +kernel
theorem d_Mo_isBefore_83 : decode c0_Mo_isBefore 83 = .ok (.getfield 33, 3) := by decide +kernel
theorem d_Mo_isBefore_86 : decode c0_Mo_isBefore 86 = .ok (.iconst 5, 1) := by decide +kernel
theorem d_Mo_isBefore_87 : decode c0_Mo_isBefore 87 = .ok (.iaload, 1) := by decide +kernel
theorem d_Mo_isBefore_88 : decode c0_Mo_isBefore 88 = .ok (.if_icmp .ge 7, 3) := by decide +kernel
theorem d_Mo_isBefore_91 : decode c0_Mo_isBefore 91 = .ok (.iconst 1, 1) := by decide +kernel
theorem d_Mo_isBefore_92 : decode c0_Mo_isBefore 92 = .ok (.goto 4, 3) := by decide +kernel
theorem d_Mo_isBefore_95 : decode c0_Mo_isBefore 95 = .ok (.iconst 0, 1) := by decide +kernel
theorem d_Mo_isBefore_96 : decode c0_Mo_isBefore 96 = .ok (.ireturn, 1) := by decide +kernel
def f_Mo_isBefore (K : Nat → ClassId) (N : Nat) (o : Nat)  (h0 : fh_H) : Option (Int32 × fh_H) :=
  (fg_a h0 (some o) 6 13).bind fun x1 => (fa_i (K 0) h0 x1 0).bind fun x2 => (fg_a h0 (some o) 6 13).bind fun x3 => (fa_i (K 0) h0 x3 3).bind fun x4 => if x2 = x4 then ((fg_a h0 (some o) 6 13).bind fun x5 => (fa_i (K 0) h0 x5 1).bind fun x6 => (fg_a h0 (some o) 6 13).bind fun x7 => (fa_i (K 0) h0 x7 4).bind fun x8 => if x6 = x8 then ((fg_a h0 (some o) 6 13).bind fun x9 => (fa_i (K 0) h0 x9 2).bind fun x10 => (fg_a h0 (some o) 6 13).bind fun x11 => (fa_i (K 0) h0 x11 5).bind fun x12 => if x12 ≤ x10 then (some (0, h0)) else (some (1, h0))) else ((fg_a h0 (some o) 6 13).bind fun x13 => (fa_i (K 0) h0 x13 1).bind fun x14 => (fg_a h0 (some o) 6 13).bind fun x15 => (fa_i (K 0) h0 x15 4).bind fun x16 => if x16 ≤ x14 then (some (0, h0)) else (some (1, h0)))) else ((fg_a h0 (some o) 6 13).bind fun x17 => (fa_i (K 0) h0 x17 0).bind fun x18 => (fg_a h0 (some o) 6 13).bind fun x19 => (fa_i (K 0) h0 x19 3).bind fun x20 => if x20 ≤ x18 then (some (0, h0)) else (some (1, h0)))
set_option maxHeartbeats 4000000 in
set_option maxRecDepth 100000 in
theorem c_Mo_isBefore {l : Launch} {D : va_G} {K : Nat → ClassId} {t : Nat → Nat} {N : Nat} {o : Nat}  {h0 : fh_H} {res : Int32 × fh_H} (hf : f_Mo_isBefore K N o  h0 = some res) : fC l D K t y_Mo_isBefore c0_Mo_isBefore 1 (some .boolean) rm_Mo_isBefore [.ref o] h0 (some (.int res.1)) res.2 := by
  refine fh_body (by decide) (Nat.le_of_ble_eq_true rfl) ?_
  intro p e s m below meth c A ls S hr hk hnm hE hAe hI hl
  obtain ⟨hx, hb, hml, hown, hts⟩ := id S
  have hl : lv_has ls 1 [(0, va_rf (some o))] := hl
  unfold f_Mo_isBefore at hf
  refine fh_aload_n S d_Mo_isBefore_0 rfl (lv_at hl 0 rfl) ?_
  obtain ⟨x1, e_x1, hf⟩ := fh_b hf
  refine fh_geta S hE.1 hI e_x1 (hc := rfl) (hin := in_6) (by decide) (hts _ k_178) d_Mo_isBefore_1 ?_
  refine lv_iconst (v := 0) hx hb d_Mo_isBefore_4 (by decide) ?_
  obtain ⟨x2, e_x2, hf⟩ := fh_b hf
  refine fh_iald S hE.1 hI 0 rfl e_x2 d_Mo_isBefore_5 ?_
  refine fh_aload_n S d_Mo_isBefore_6 rfl (lv_at hl 0 rfl) ?_
  obtain ⟨x3, e_x3, hf⟩ := fh_b hf
  refine fh_geta S hE.1 hI e_x3 (hc := rfl) (hin := in_6) (by decide) (hts _ k_178) d_Mo_isBefore_7 ?_
  refine lv_iconst (v := 3) hx hb d_Mo_isBefore_10 (by decide) ?_
  obtain ⟨x4, e_x4, hf⟩ := fh_b hf
  refine fh_iald S hE.1 hI 0 rfl e_x4 d_Mo_isBefore_11 ?_
  refine lv_icmp_eq (tgt := 38) hx hb d_Mo_isBefore_12 (by decide) (fun c_12 => ?_) (fun c_12 => ?_)
  · replace hf := fh_t c_12 hf
    refine fh_aload_n S d_Mo_isBefore_38 rfl (lv_at hl 0 rfl) ?_
    obtain ⟨x5, e_x5, hf⟩ := fh_b hf
    refine fh_geta S hE.1 hI e_x5 (hc := rfl) (hin := in_6) (by decide) (hts _ k_178) d_Mo_isBefore_39 ?_
    refine lv_iconst (v := 1) hx hb d_Mo_isBefore_42 (by decide) ?_
    obtain ⟨x6, e_x6, hf⟩ := fh_b hf
    refine fh_iald S hE.1 hI 0 rfl e_x6 d_Mo_isBefore_43 ?_
    refine fh_aload_n S d_Mo_isBefore_44 rfl (lv_at hl 0 rfl) ?_
    obtain ⟨x7, e_x7, hf⟩ := fh_b hf
    refine fh_geta S hE.1 hI e_x7 (hc := rfl) (hin := in_6) (by decide) (hts _ k_178) d_Mo_isBefore_45 ?_
    refine lv_iconst (v := 4) hx hb d_Mo_isBefore_48 (by decide) ?_
    obtain ⟨x8, e_x8, hf⟩ := fh_b hf
    refine fh_iald S hE.1 hI 0 rfl e_x8 d_Mo_isBefore_49 ?_
    refine lv_icmp_eq (tgt := 76) hx hb d_Mo_isBefore_50 (by decide) (fun c_50 => ?_) (fun c_50 => ?_)
    · replace hf := fh_t c_50 hf
      refine fh_aload_n S d_Mo_isBefore_76 rfl (lv_at hl 0 rfl) ?_
      obtain ⟨x9, e_x9, hf⟩ := fh_b hf
      refine fh_geta S hE.1 hI e_x9 (hc := rfl) (hin := in_6) (by decide) (hts _ k_178) d_Mo_isBefore_77 ?_
      refine lv_iconst (v := 2) hx hb d_Mo_isBefore_80 (by decide) ?_
      obtain ⟨x10, e_x10, hf⟩ := fh_b hf
      refine fh_iald S hE.1 hI 0 rfl e_x10 d_Mo_isBefore_81 ?_
      refine fh_aload_n S d_Mo_isBefore_82 rfl (lv_at hl 0 rfl) ?_
      obtain ⟨x11, e_x11, hf⟩ := fh_b hf
      refine fh_geta S hE.1 hI e_x11 (hc := rfl) (hin := in_6) (by decide) (hts _ k_178) d_Mo_isBefore_83 ?_
      refine lv_iconst (v := 5) hx hb d_Mo_isBefore_86 (by decide) ?_
      obtain ⟨x12, e_x12, hf⟩ := fh_b hf
      refine fh_iald S hE.1 hI 0 rfl e_x12 d_Mo_isBefore_87 ?_
      refine lv_icmp_ge (tgt := 95) hx hb d_Mo_isBefore_88 (by decide) (fun c_88 => ?_) (fun c_88 => ?_)
      · replace hf := fh_t c_88 hf
        refine lv_iconst (v := 0) hx hb d_Mo_isBefore_95 (by decide) ?_
        obtain rfl := Option.some.inj hf
        exact fh_iret S hr hk (fh_nb (Or.inl rfl)) hAe hI d_Mo_isBefore_96
      · replace hf := fh_f c_88 hf
        refine lv_iconst (v := 1) hx hb d_Mo_isBefore_91 (by decide) ?_
        refine lv_goto (tgt := 96) hx hb d_Mo_isBefore_92 (by decide) ?_
        obtain rfl := Option.some.inj hf
        exact fh_iret S hr hk (fh_nb (Or.inr rfl)) hAe hI d_Mo_isBefore_96
    · replace hf := fh_f c_50 hf
      refine fh_aload_n S d_Mo_isBefore_53 rfl (lv_at hl 0 rfl) ?_
      obtain ⟨x13, e_x13, hf⟩ := fh_b hf
      refine fh_geta S hE.1 hI e_x13 (hc := rfl) (hin := in_6) (by decide) (hts _ k_178) d_Mo_isBefore_54 ?_
      refine lv_iconst (v := 1) hx hb d_Mo_isBefore_57 (by decide) ?_
      obtain ⟨x14, e_x14, hf⟩ := fh_b hf
      refine fh_iald S hE.1 hI 0 rfl e_x14 d_Mo_isBefore_58 ?_
      refine fh_aload_n S d_Mo_isBefore_59 rfl (lv_at hl 0 rfl) ?_
      obtain ⟨x15, e_x15, hf⟩ := fh_b hf
      refine fh_geta S hE.1 hI e_x15 (hc := rfl) (hin := in_6) (by decide) (hts _ k_178) d_Mo_isBefore_60 ?_
      refine lv_iconst (v := 4) hx hb d_Mo_isBefore_63 (by decide) ?_
      obtain ⟨x16, e_x16, hf⟩ := fh_b hf
      refine fh_iald S hE.1 hI 0 rfl e_x16 d_Mo_isBefore_64 ?_
      refine lv_icmp_ge (tgt := 72) hx hb d_Mo_isBefore_65 (by decide) (fun c_65 => ?_) (fun c_65 => ?_)
      · replace hf := fh_t c_65 hf
        refine lv_iconst (v := 0) hx hb d_Mo_isBefore_72 (by decide) ?_
        refine lv_goto (tgt := 96) hx hb d_Mo_isBefore_73 (by decide) ?_
        obtain rfl := Option.some.inj hf
        exact fh_iret S hr hk (fh_nb (Or.inl rfl)) hAe hI d_Mo_isBefore_96
      · replace hf := fh_f c_65 hf
        refine lv_iconst (v := 1) hx hb d_Mo_isBefore_68 (by decide) ?_
        refine lv_goto (tgt := 96) hx hb d_Mo_isBefore_69 (by decide) ?_
        obtain rfl := Option.some.inj hf
        exact fh_iret S hr hk (fh_nb (Or.inr rfl)) hAe hI d_Mo_isBefore_96
  · replace hf := fh_f c_12 hf
    refine fh_aload_n S d_Mo_isBefore_15 rfl (lv_at hl 0 rfl) ?_
    obtain ⟨x17, e_x17, hf⟩ := fh_b hf
    refine fh_geta S hE.1 hI e_x17 (hc := rfl) (hin := in_6) (by decide) (hts _ k_178) d_Mo_isBefore_16 ?_
    refine lv_iconst (v := 0) hx hb d_Mo_isBefore_19 (by decide) ?_
    obtain ⟨x18, e_x18, hf⟩ := fh_b hf
    refine fh_iald S hE.1 hI 0 rfl e_x18 d_Mo_isBefore_20 ?_
    refine fh_aload_n S d_Mo_isBefore_21 rfl (lv_at hl 0 rfl) ?_
    obtain ⟨x19, e_x19, hf⟩ := fh_b hf
    refine fh_geta S hE.1 hI e_x19 (hc := rfl) (hin := in_6) (by decide) (hts _ k_178) d_Mo_isBefore_22 ?_
    refine lv_iconst (v := 3) hx hb d_Mo_isBefore_25 (by decide) ?_
    obtain ⟨x20, e_x20, hf⟩ := fh_b hf
    refine fh_iald S hE.1 hI 0 rfl e_x20 d_Mo_isBefore_26 ?_
    refine lv_icmp_ge (tgt := 34) hx hb d_Mo_isBefore_27 (by decide) (fun c_27 => ?_) (fun c_27 => ?_)
    · replace hf := fh_t c_27 hf
      refine lv_iconst (v := 0) hx hb d_Mo_isBefore_34 (by decide) ?_
      refine lv_goto (tgt := 96) hx hb d_Mo_isBefore_35 (by decide) ?_
      obtain rfl := Option.some.inj hf
      exact fh_iret S hr hk (fh_nb (Or.inl rfl)) hAe hI d_Mo_isBefore_96
    · replace hf := fh_f c_27 hf
      refine lv_iconst (v := 1) hx hb d_Mo_isBefore_30 (by decide) ?_
      refine lv_goto (tgt := 96) hx hb d_Mo_isBefore_31 (by decide) ?_
      obtain rfl := Option.some.inj hf
      exact fh_iret S hr hk (fh_nb (Or.inr rfl)) hAe hI d_Mo_isBefore_96
theorem d_Mo_isOrdered_0 : decode c0_Mo_isOrdered 0 = .ok (.iload_n 1, 1) := by decide +kernel
theorem d_Mo_isOrdered_1 : decode c0_Mo_isOrdered 1 = .ok (.tableswitch 279 0 7 #[47, 68, 279, 279, 279, 104, 155, 206], 47) := by decide +kernel
theorem d_Mo_isOrdered_48 : decode c0_Mo_isOrdered 48 = .ok (.aload_n 0, 1) := by decide +kernel
theorem d_Mo_isOrdered_49 : decode c0_Mo_isOrdered 49 = .ok (.getfield 33, 3) := by decide +kernel
theorem d_Mo_isOrdered_52 : decode c0_Mo_isOrdered 52 = .ok (.iconst 0, 1) := by decide +kernel
theorem d_Mo_isOrdered_53 : decode c0_Mo_isOrdered 53 = .ok (.iaload, 1) := by decide +kernel
theorem d_Mo_isOrdered_54 : decode c0_Mo_isOrdered 54 = .ok (.aload_n 0, 1) := by decide +kernel
theorem d_Mo_isOrdered_55 : decode c0_Mo_isOrdered 55 = .ok (.getfield 33, 3) := by decide +kernel
theorem d_Mo_isOrdered_58 : decode c0_Mo_isOrdered 58 = .ok (.iconst 1, 1) := by decide +kernel
theorem d_Mo_isOrdered_59 : decode c0_Mo_isOrdered 59 = .ok (.iaload, 1) := by decide +kernel
theorem d_Mo_isOrdered_60 : decode c0_Mo_isOrdered 60 = .ok (.if_icmp .ge 7, 3) := by decide +kernel
theorem d_Mo_isOrdered_63 : decode c0_Mo_isOrdered 63 = .ok (.iconst 1, 1) := by decide +kernel
theorem d_Mo_isOrdered_64 : decode c0_Mo_isOrdered 64 = .ok (.goto 4, 3) := by decide +kernel
theorem d_Mo_isOrdered_67 : decode c0_Mo_isOrdered 67 = .ok (.iconst 0, 1) := by decide +kernel
theorem d_Mo_isOrdered_68 : decode c0_Mo_isOrdered 68 = .ok (.ireturn, 1) := by decide +kernel
theorem d_Mo_isOrdered_69 : decode c0_Mo_isOrdered 69 = .ok (.aload_n 0, 1) := by decide +kernel
theorem d_Mo_isOrdered_70 : decode c0_Mo_isOrdered 70 = .ok (.getfield 33, 3) := by decide +kernel
theorem d_Mo_isOrdered_73 : decode c0_Mo_isOrdered 73 = .ok (.iconst 0, 1) := by decide +kernel
theorem d_Mo_isOrdered_74 : decode c0_Mo_isOrdered 74 = .ok (.iaload, 1) := by decide +kernel
theorem d_Mo_isOrdered_75 : decode c0_Mo_isOrdered 75 = .ok (.aload_n 0, 1) := by decide +kernel
theorem d_Mo_isOrdered_76 : decode c0_Mo_isOrdered 76 = .ok (.getfield 33, 3) := by decide +kernel
theorem d_Mo_isOrdered_79 : decode c0_Mo_isOrdered 79 = .ok (.iconst 1, 1) := by decide +kernel
theorem d_Mo_isOrdered_80 : decode c0_Mo_isOrdered 80 = .ok (.iaload, 1) := by decide +kernel
theorem d_Mo_isOrdered_81 : decode c0_Mo_isOrdered 81 = .ok (.if_icmp .ge 22, 3) := by decide +kernel
theorem d_Mo_isOrdered_84 : decode c0_Mo_isOrdered 84 = .ok (.aload_n 0, 1) := by decide +kernel
theorem d_Mo_isOrdered_85 : decode c0_Mo_isOrdered 85 = .ok (.getfield 33, 3) := by decide +kernel
theorem d_Mo_isOrdered_88 : decode c0_Mo_isOrdered 88 = .ok (.iconst 1, 1) := by decide +kernel
theorem d_Mo_isOrdered_89 : decode c0_Mo_isOrdered 89 = .ok (.iaload, 1) := by decide +kernel
theorem d_Mo_isOrdered_90 : decode c0_Mo_isOrdered 90 = .ok (.aload_n 0, 1) := by decide +kernel
theorem d_Mo_isOrdered_91 : decode c0_Mo_isOrdered 91 = .ok (.getfield 33, 3) := by decide +kernel
theorem d_Mo_isOrdered_94 : decode c0_Mo_isOrdered 94 = .ok (.iconst 2, 1) := by decide +kernel
theorem d_Mo_isOrdered_95 : decode c0_Mo_isOrdered 95 = .ok (.iaload, 1) := by decide +kernel
theorem d_Mo_isOrdered_96 : decode c0_Mo_isOrdered 96 = .ok (.if_icmp .ge 7, 3) := by decide +kernel
theorem d_Mo_isOrdered_99 : decode c0_Mo_isOrdered 99 = .ok (.iconst 1, 1) := by decide +kernel
theorem d_Mo_isOrdered_100 : decode c0_Mo_isOrdered 100 = .ok (.goto 4, 3) := by decide +kernel
theorem d_Mo_isOrdered_103 : decode c0_Mo_isOrdered 103 = .ok (.iconst 0, 1) := by decide +kernel
theorem d_Mo_isOrdered_104 : decode c0_Mo_isOrdered 104 = .ok (.ireturn, 1) := by decide +kernel
theorem d_Mo_isOrdered_105 : decode c0_Mo_isOrdered 105 = .ok (.aload_n 0, 1) := by decide +kernel
theorem d_Mo_isOrdered_106 : decode c0_Mo_isOrdered 106 = .ok (.getfield 33, 3) := by decide +kernel
theorem d_Mo_isOrdered_109 : decode c0_Mo_isOrdered 109 = .ok (.iconst 0, 1) := by decide +kernel
theorem d_Mo_isOrdered_110 : decode c0_Mo_isOrdered 110 = .ok (.iaload, 1) := by decide +kernel
theorem d_Mo_isOrdered_111 : decode c0_Mo_isOrdered 111 = .ok (.aload_n 0, 1) := by decide +kernel
theorem d_Mo_isOrdered_112 : decode c0_Mo_isOrdered 112 = .ok (.getfield 33, 3) := by decide +kernel
theorem d_Mo_isOrdered_115 : decode c0_Mo_isOrdered 115 = .ok (.iconst 1, 1) := by decide +kernel
theorem d_Mo_isOrdered_116 : decode c0_Mo_isOrdered 116 = .ok (.iaload, 1) := by decide +kernel
theorem d_Mo_isOrdered_117 : decode c0_Mo_isOrdered 117 = .ok (.if_icmp .ge 37, 3) := by decide +kernel
theorem d_Mo_isOrdered_120 : decode c0_Mo_isOrdered 120 = .ok (.aload_n 0, 1) := by decide +kernel
theorem d_Mo_isOrdered_121 : decode c0_Mo_isOrdered 121 = .ok (.getfield 33, 3) := by decide +kernel
theorem d_Mo_isOrdered_124 : decode c0_Mo_isOrdered 124 = .ok (.iconst 1, 1) := by decide +kernel
theorem d_Mo_isOrdered_125 : decode c0_Mo_isOrdered 125 = .ok (.iaload, 1) := by decide +kernel
theorem d_Mo_isOrdered_126 : decode c0_Mo_isOrdered 126 = .ok (.aload_n 0, 1) := by decide +kernel
theorem d_Mo_isOrdered_127 : decode c0_Mo_isOrdered 127 = .ok (.getfield 33, 3) := by decide +kernel
theorem d_Mo_isOrdered_130 : decode c0_Mo_isOrdered 130 = .ok (.iconst 2, 1) := by decide +kernel
theorem d_Mo_isOrdered_131 : decode c0_Mo_isOrdered 131 = .ok (.iaload, 1) := by decide +kernel
theorem d_Mo_isOrdered_132 : decode c0_Mo_isOrdered 132 = .ok (.if_icmp .ge 22, 3) := by decide +kernel
theorem d_Mo_isOrdered_135 : decode c0_Mo_isOrdered 135 = .ok (.aload_n 0, 1) := by decide +kernel
theorem d_Mo_isOrdered_136 : decode c0_Mo_isOrdered 136 = .ok (.getfield 33, 3) := by decide +kernel
theorem d_Mo_isOrdered_139 : decode c0_Mo_isOrdered 139 = .ok (.iconst 2, 1) := by decide +kernel
theorem d_Mo_isOrdered_140 : decode c0_Mo_isOrdered 140 = .ok (.iaload, 1) := by decide +kernel
theorem d_Mo_isOrdered_141 : decode c0_Mo_isOrdered 141 = .ok (.aload_n 0, 1) := by decide +kernel
theorem d_Mo_isOrdered_142 : decode c0_Mo_isOrdered 142 = .ok (.getfield 33, 3) := by decide +kernel
theorem d_Mo_isOrdered_145 : decode c0_Mo_isOrdered 145 = .ok (.iconst 3, 1) := by decide +kernel
theorem d_Mo_isOrdered_146 : decode c0_Mo_isOrdered 146 = .ok (.iaload, 1) := by decide +kernel
theorem d_Mo_isOrdered_147 : decode c0_Mo_isOrdered 147 = .ok (.if_icmp .ge 7, 3) := by decide +kernel
theorem d_Mo_isOrdered_150 : decode c0_Mo_isOrdered 150 = .ok (.iconst 1, 1) := by decide +kernel
theorem d_Mo_isOrdered_151 : decode c0_Mo_isOrdered 151 = .ok (.goto 4, 3) := by decide +kernel
theorem d_Mo_isOrdered_154 : decode c0_Mo_isOrdered 154 = .ok (.iconst 0, 1) := by decide +kernel
theorem d_Mo_isOrdered_155 : decode c0_Mo_isOrdered 155 = .ok (.ireturn, 1) := by decide +kernel
theorem d_Mo_isOrdered_156 : decode c0_Mo_isOrdered 156 = .ok (.aload_n 0, 1) := by decide +kernel
theorem d_Mo_isOrdered_157 : decode c0_Mo_isOrdered 157 = .ok (.getfield 33, 3) := by decide +kernel
theorem d_Mo_isOrdered_160 : decode c0_Mo_isOrdered 160 = .ok (.iconst 1, 1) := by decide +kernel
theorem d_Mo_isOrdered_161 : decode c0_Mo_isOrdered 161 = .ok (.iaload, 1) := by decide +kernel
theorem d_Mo_isOrdered_162 : decode c0_Mo_isOrdered 162 = .ok (.aload_n 0, 1) := by decide +kernel
theorem d_Mo_isOrdered_163 : decode c0_Mo_isOrdered 163 = .ok (.getfield 33, 3) := by decide +kernel
theorem d_Mo_isOrdered_166 : decode c0_Mo_isOrdered 166 = .ok (.iconst 2, 1) := by decide +kernel
theorem d_Mo_isOrdered_167 : decode c0_Mo_isOrdered 167 = .ok (.iaload, 1) := by decide +kernel
theorem d_Mo_isOrdered_168 : decode c0_Mo_isOrdered 168 = .ok (.if_icmp .ge 37, 3) := by decide +kernel
theorem d_Mo_isOrdered_171 : decode c0_Mo_isOrdered 171 = .ok (.aload_n 0, 1) := by decide +kernel
theorem d_Mo_isOrdered_172 : decode c0_Mo_isOrdered 172 = .ok (.getfield 33, 3) := by decide +kernel
theorem d_Mo_isOrdered_175 : decode c0_Mo_isOrdered 175 = .ok (.iconst 0, 1) := by decide +kernel
theorem d_Mo_isOrdered_176 : decode c0_Mo_isOrdered 176 = .ok (.iaload, 1) := by decide +kernel
theorem d_Mo_isOrdered_177 : decode c0_Mo_isOrdered 177 = .ok (.aload_n 0, 1) := by decide +kernel
theorem d_Mo_isOrdered_178 : decode c0_Mo_isOrdered 178 = .ok (.getfield 33, 3) := by decide +kernel
theorem d_Mo_isOrdered_181 : decode c0_Mo_isOrdered 181 = .ok (.iconst 1, 1) := by decide +kernel
theorem d_Mo_isOrdered_182 : decode c0_Mo_isOrdered 182 = .ok (.iaload, 1) := by decide +kernel
theorem d_Mo_isOrdered_183 : decode c0_Mo_isOrdered 183 = .ok (.if_icmp .eq 22, 3) := by decide +kernel
theorem d_Mo_isOrdered_186 : decode c0_Mo_isOrdered 186 = .ok (.aload_n 0, 1) := by decide +kernel
theorem d_Mo_isOrdered_187 : decode c0_Mo_isOrdered 187 = .ok (.getfield 33, 3) := by decide +kernel
theorem d_Mo_isOrdered_190 : decode c0_Mo_isOrdered 190 = .ok (.iconst 0, 1) := by decide +kernel
theorem d_Mo_isOrdered_191 : decode c0_Mo_isOrdered 191 = .ok (.iaload, 1) := by decide +kernel
theorem d_Mo_isOrdered_192 : decode c0_Mo_isOrdered 192 = .ok (.aload_n 0, 1) := by decide +kernel
theorem d_Mo_isOrdered_193 : decode c0_Mo_isOrdered 193 = .ok (.getfield 33, 3) := by decide +kernel
theorem d_Mo_isOrdered_196 : decode c0_Mo_isOrdered 196 = .ok (.iconst 2, 1) := by decide +kernel
theorem d_Mo_isOrdered_197 : decode c0_Mo_isOrdered 197 = .ok (.iaload, 1) := by decide +kernel
theorem d_Mo_isOrdered_198 : decode c0_Mo_isOrdered 198 = .ok (.if_icmp .eq 7, 3) := by decide +kernel
theorem d_Mo_isOrdered_201 : decode c0_Mo_isOrdered 201 = .ok (.iconst 1, 1) := by decide +kernel
theorem d_Mo_isOrdered_202 : decode c0_Mo_isOrdered 202 = .ok (.goto 4, 3) := by decide +kernel
theorem d_Mo_isOrdered_205 : decode c0_Mo_isOrdered 205 = .ok (.iconst 0, 1) := by decide +kernel
theorem d_Mo_isOrdered_206 : decode c0_Mo_isOrdered 206 = .ok (.ireturn, 1) := by decide +kernel
theorem d_Mo_isOrdered_207 : decode c0_Mo_isOrdered 207 = .ok (.aload_n 0, 1) := by decide +kernel
theorem d_Mo_isOrdered_208 : decode c0_Mo_isOrdered 208 = .ok (.getfield 33, 3) := by decide +kernel
theorem d_Mo_isOrdered_211 : decode c0_Mo_isOrdered 211 = .ok (.iconst 0, 1) := by decide +kernel
theorem d_Mo_isOrdered_212 : decode c0_Mo_isOrdered 212 = .ok (.iaload, 1) := by decide +kernel
theorem d_Mo_isOrdered_213 : decode c0_Mo_isOrdered 213 = .ok (.aload_n 0, 1) := by decide +kernel
theorem d_Mo_isOrdered_214 : decode c0_Mo_isOrdered 214 = .ok (.getfield 33, 3) := by decide +kernel
theorem d_Mo_isOrdered_217 : decode c0_Mo_isOrdered 217 = .ok (.iconst 1, 1) := by decide +kernel
theorem d_Mo_isOrdered_218 : decode c0_Mo_isOrdered 218 = .ok (.iaload, 1) := by decide +kernel
theorem d_Mo_isOrdered_219 : decode c0_Mo_isOrdered 219 = .ok (.if_icmp .ge 59, 3) := by decide +kernel
theorem d_Mo_isOrdered_222 : decode c0_Mo_isOrdered 222 = .ok (.aload_n 0, 1) := by decide +kernel
theorem d_Mo_isOrdered_223 : decode c0_Mo_isOrdered 223 = .ok (.getfield 33, 3) := by decide +kernel
theorem d_Mo_isOrdered_226 : decode c0_Mo_isOrdered 226 = .ok (.iconst 1, 1) := by decide +kernel
theorem d_Mo_isOrdered_227 : decode c0_Mo_isOrdered 227 = .ok (.iaload, 1) := by decide +kernel
theorem d_Mo_isOrdered_228 : decode c0_Mo_isOrdered 228 = .ok (.aload_n 0, 1) := by decide +kernel
theorem d_Mo_isOrdered_229 : decode c0_Mo_isOrdered 229 = .ok (.getfield 33, 3) := by decide +kernel
theorem d_Mo_isOrdered_232 : decode c0_Mo_isOrdered 232 = .ok (.iconst 2, 1) := by decide +kernel
theorem d_Mo_isOrdered_233 : decode c0_Mo_isOrdered 233 = .ok (.iaload, 1) := by decide +kernel
theorem d_Mo_isOrdered_234 : decode c0_Mo_isOrdered 234 = .ok (.if_icmp .ge 44, 3) := by decide +kernel
theorem d_Mo_isOrdered_237 : decode c0_Mo_isOrdered 237 = .ok (.aload_n 0, 1) := by decide +kernel
theorem d_Mo_isOrdered_238 : decode c0_Mo_isOrdered 238 = .ok (.getfield 33, 3) := by decide +kernel
theorem d_Mo_isOrdered_241 : decode c0_Mo_isOrdered 241 = .ok (.iconst 3, 1) := by decide +kernel
theorem d_Mo_isOrdered_242 : decode c0_Mo_isOrdered 242 = .ok (.iaload, 1) := by decide +kernel
theorem d_Mo_isOrdered_243 : decode c0_Mo_isOrdered 243 = .ok (.aload_n 0, 1) := by decide +kernel
theorem d_Mo_isOrdered_244 : decode c0_Mo_isOrdered 244 = .ok (.getfield 33, 3) := by decide +kernel
theorem d_Mo_isOrdered_247 : decode c0_Mo_isOrdered 247 = .ok (.iconst 4, 1) := by decide +kernel
theorem d_Mo_isOrdered_248 : decode c0_Mo_isOrdered 248 = .ok (.iaload, 1) := by decide +kernel
theorem d_Mo_isOrdered_249 : decode c0_Mo_isOrdered 249 = .ok (.if_icmp .ge 29, 3) := by decide +kernel
theorem d_Mo_isOrdered_252 : decode c0_Mo_isOrdered 252 = .ok (.aload_n 0, 1) := by decide +kernel
theorem d_Mo_isOrdered_253 : decode c0_Mo_isOrdered 253 = .ok (.getfield 33, 3) := by decide +kernel
theorem d_Mo_isOrdered_256 : decode c0_Mo_isOrdered 256 = .ok (.iconst 4, 1) := by decide +kernel
theorem d_Mo_isOrdered_257 : decode c0_Mo_isOrdered 257 = .ok (.iaload, 1) := by decide +kernel
theorem d_Mo_isOrdered_258 : decode c0_Mo_isOrdered 258 = .ok (.aload_n 0, 1) := by decide +kernel
theorem d_Mo_isOrdered_259 : decode c0_Mo_isOrdered 259 = .ok (.getfield 33, 3) := by decide +kernel
theorem d_Mo_isOrdered_262 : decode c0_Mo_isOrdered 262 = .ok (.iconst 5, 1) := by decide +kernel
theorem d_Mo_isOrdered_263 : decode c0_Mo_isOrdered 263 = .ok (.iaload, 1) := by decide +kernel
theorem d_Mo_isOrdered_264 : decode c0_Mo_isOrdered 264 = .ok (.if_icmp .ge 14, 3) := by decide +kernel
theorem d_Mo_isOrdered_267 : decode c0_Mo_isOrdered 267 = .ok (.aload_n 0, 1) := by decide +kernel
theorem d_Mo_isOrdered_268 : decode c0_Mo_isOrdered 268 = .ok (.invokevirtual 194, 3) := by decide +kernel
theorem d_Mo_isOrdered_271 : decode c0_Mo_isOrdered 271 = .ok (.ifCond .eq 7, 3) := by decide +kernel
theorem d_Mo_isOrdered_274 : decode c0_Mo_isOrdered 274 = .ok (.iconst 1, 1) := by decide +kernel
theorem d_Mo_isOrdered_275 : decode c0_Mo_isOrdered 275 = .ok (.goto 4, 3) := by decide +kernel
theorem d_Mo_isOrdered_278 : decode c0_Mo_isOrdered 278 = .ok (.iconst 0, 1) := by decide +kernel
theorem d_Mo_isOrdered_279 : decode c0_Mo_isOrdered 279 = .ok (.ireturn, 1) := by decide +kernel
theorem d_Mo_isOrdered_280 : decode c0_Mo_isOrdered 280 = .ok (.aload_n 0, 1) := by decide +kernel
theorem d_Mo_isOrdered_281 : decode c0_Mo_isOrdered 281 = .ok (.getfield 33, 3) := by decide +kernel
theorem d_Mo_isOrdered_284 : decode c0_Mo_isOrdered 284 = .ok (.iconst 0, 1) := by decide +kernel
theorem d_Mo_isOrdered_285 : decode c0_Mo_isOrdered 285 = .ok (.iaload, 1) := by decide +kernel
theorem d_Mo_isOrdered_286 : decode c0_Mo_isOrdered 286 = .ok (.aload_n 0, 1) := by decide +kernel
theorem d_Mo_isOrdered_287 : decode c0_Mo_isOrdered 287 = .ok (.getfield 33, 3) := by decide +kernel
theorem d_Mo_isOrdered_290 : decode c0_Mo_isOrdered 290 = .ok (.iconst 1, 1) := by decide +kernel
theorem d_Mo_isOrdered_291 : decode c0_Mo_isOrdered 291 = .ok (.iaload, 1) := by decide +kernel
theorem d_Mo_isOrdered_292 : decode c0_Mo_isOrdered 292 = .ok (.if_icmp .ge 67, 3) := by decide +kernel
theorem d_Mo_isOrdered_295 : decode c0_Mo_isOrdered 295 = .ok (.aload_n 0, 1) := by decide +kernel
theorem d_Mo_isOrdered_296 : decode c0_Mo_isOrdered 296 = .ok (.getfield 33, 3) := by decide +kernel
theorem d_Mo_isOrdered_299 : decode c0_Mo_isOrdered 299 = .ok (.iconst 2, 1) := by decide +kernel
theorem d_Mo_isOrdered_300 : decode c0_Mo_isOrdered 300 = .ok (.iaload, 1) := by decide +kernel
theorem d_Mo_isOrdered_301 : decode c0_Mo_isOrdered 301 = .ok (.aload_n 0, 1) := by decide +kernel
theorem d_Mo_isOrdered_302 : decode c0_Mo_isOrdered 302 = .ok (.getfield 33, 3) := by decide +kernel
theorem d_Mo_isOrdered_305 : decode c0_Mo_isOrdered 305 = .ok (.iconst 3, 1) := by decide +kernel
theorem d_Mo_isOrdered_306 : decode c0_Mo_isOrdered 306 = .ok (.iaload, 1) := by decide +kernel
theorem d_Mo_isOrdered_307 : decode c0_Mo_isOrdered 307 = .ok (.if_icmp .ge 52, 3) := by decide +kernel
theorem d_Mo_isOrdered_310 : decode c0_Mo_isOrdered 310 = .ok (.aload_n 0, 1) := by decide +kernel
theorem d_Mo_isOrdered_311 : decode c0_Mo_isOrdered 311 = .ok (.getfield 33, 3) := by decide +kernel
theorem d_Mo_isOrdered_314 : decode c0_Mo_isOrdered 314 = .ok (.iconst 0, 1) := by decide +kernel
theorem d_Mo_isOrdered_315 : decode c0_Mo_isOrdered 315 = .ok (.iaload, 1) := by decide +kernel
theorem d_Mo_isOrdered_316 : decode c0_Mo_isOrdered 316 = .ok (.aload_n 0, 1) := by decide +kernel
theorem d_Mo_isOrdered_317 : decode c0_Mo_isOrdered 317 = .ok (.getfield 33, 3) := by decide +kernel
theorem d_Mo_isOrdered_320 : decode c0_Mo_isOrdered 320 = .ok (.iconst 2, 1) := by decide +kernel
theorem d_Mo_isOrdered_321 : decode c0_Mo_isOrdered 321 = .ok (.iaload, 1) := by decide +kernel
theorem d_Mo_isOrdered_322 : decode c0_Mo_isOrdered 322 = .ok (.if_icmp .lt 33, 3) := by decide +kernel
theorem d_Mo_isOrdered_325 : decode c0_Mo_isOrdered 325 = .ok (.aload_n 0, 1) := by decide +kernel
theorem d_Mo_isOrdered_326 : decode c0_Mo_isOrdered 326 = .ok (.getfield 33, 3) := by decide +kernel
theorem d_Mo_isOrdered_329 : decode c0_Mo_isOrdered 329 = .ok (.iconst 0, 1) := by decide +kernel
theorem d_Mo_isOrdered_330 : decode c0_Mo_isOrdered 330 = .ok (.iaload, 1) := by decide +kernel
theorem d_Mo_isOrdered_331 : decode c0_Mo_isOrdered 331 = .ok (.aload_n 0, 1) := by decide +kernel
theorem d_Mo_isOrdered_332 : decode c0_Mo_isOrdered 332 = .ok (.getfield 33, 3) := by decide +kernel
theorem d_Mo_isOrdered_335 : decode c0_Mo_isOrdered 335 = .ok (.iconst 2, 1) := by decide +kernel
theorem d_Mo_isOrdered_336 : decode c0_Mo_isOrdered 336 = .ok (.iaload, 1) := by decide +kernel
theorem d_Mo_isOrdered_337 : decode c0_Mo_isOrdered 337 = .ok (.if_icmp .ne 22, 3) := by decide +kernel
theorem d_Mo_isOrdered_340 : decode c0_Mo_isOrdered 340 = .ok (.aload_n 0, 1) := by decide +kernel
theorem d_Mo_isOrdered_341 : decode c0_Mo_isOrdered 341 = .ok (.getfield 33, 3) := by decide +kernel
theorem d_Mo_isOrdered_344 : decode c0_Mo_isOrdered 344 = .ok (.iconst 1, 1) := by decide +kernel
theorem d_Mo_isOrdered_345 : decode c0_Mo_isOrdered 345 = .ok (.iaload, 1) := by decide +kernel
theorem d_Mo_isOrdered_346 : decode c0_Mo_isOrdered 346 = .ok (.aload_n 0, 1) := by decide +kernel
theorem d_Mo_isOrdered_347 : decode c0_Mo_isOrdered 347 = .ok (.getfield 33, 3) := by decide +kernel
theorem d_Mo_isOrdered_350 : decode c0_Mo_isOrdered 350 = .ok (.iconst 3, 1) := by decide +kernel
theorem d_Mo_isOrdered_351 : decode c0_Mo_isOrdered 351 = .ok (.iaload, 1) := by decide +kernel
theorem d_Mo_isOrdered_352 : decode c0_Mo_isOrdered 352 = .ok (.if_icmp .ge 7, 3) := by decide +kernel
theorem d_Mo_isOrdered_355 : decode c0_Mo_isOrdered 355 = .ok (.iconst 1, 1) := by decide +kernel
theorem d_Mo_isOrdered_356 : decode c0_Mo_isOrdered 356 = .ok (.goto 4, 3) := by decide +kernel
theorem d_Mo_isOrdered_359 : decode c0_Mo_isOrdered 359 = .ok (.iconst 0, 1) := by decide +kernel
theorem d_Mo_isOrdered_360 : decode c0_Mo_isOrdered 360 = .ok (.istore_n 2, 1) := by decide +kernel
theorem d_Mo_isOrdered_361 : decode c0_Mo_isOrdered 361 = .ok (.iload_n 2, 1) := by decide +kernel
theorem d_Mo_isOrdered_362 : decode c0_Mo_isOrdered 362 = .ok (.ifCond .eq 72, 3) := by decide +kernel
theorem d_Mo_isOrdered_365 : decode c0_Mo_isOrdered 365 = .ok (.iload_n 1, 1) := by decide +kernel
theorem d_Mo_isOrdered_366 : decode c0_Mo_isOrdered 366 = .ok (.iconst 2, 1) := by decide +kernel
theorem d_Mo_isOrdered_367 : decode c0_Mo_isOrdered 367 = .ok (.if_icmp .ne 63, 3) := by decide +kernel
theorem d_Mo_isOrdered_370 : decode c0_Mo_isOrdered 370 = .ok (.aload_n 0, 1) := by decide +kernel
theorem d_Mo_isOrdered_371 : decode c0_Mo_isOrdered 371 = .ok (.getfield 33, 3) := by decide +kernel
theorem d_Mo_isOrdered_374 : decode c0_Mo_isOrdered 374 = .ok (.iconst 0, 1) := by decide +kernel
theorem d_Mo_isOrdered_375 : decode c0_Mo_isOrdered 375 = .ok (.iaload, 1) := by decide +kernel
theorem d_Mo_isOrdered_376 : decode c0_Mo_isOrdered 376 = .ok (.aload_n 0, 1) := by decide +kernel
theorem d_Mo_isOrdered_377 : decode c0_Mo_isOrdered 377 = .ok (.getfield 33, 3) := by decide +kernel
theorem d_Mo_isOrdered_380 : decode c0_Mo_isOrdered 380 = .ok (.iconst 2, 1) := by decide +kernel
theorem d_Mo_isOrdered_381 : decode c0_Mo_isOrdered 381 = .ok (.iaload, 1) := by decide +kernel
theorem d_Mo_isOrdered_382 : decode c0_Mo_isOrdered 382 = .ok (.if_icmp .eq 52, 3) := by decide +kernel
theorem d_Mo_isOrdered_385 : decode c0_Mo_isOrdered 385 = .ok (.aload_n 0, 1) := by decide +kernel
theorem d_Mo_isOrdered_386 : decode c0_Mo_isOrdered 386 = .ok (.getfield 33, 3) := by decide +kernel
theorem d_Mo_isOrdered_389 : decode c0_Mo_isOrdered 389 = .ok (.iconst 1, 1) := by decide +kernel
theorem d_Mo_isOrdered_390 : decode c0_Mo_isOrdered 390 = .ok (.iaload, 1) := by decide +kernel
theorem d_Mo_isOrdered_391 : decode c0_Mo_isOrdered 391 = .ok (.aload_n 0, 1) := by decide +kernel
theorem d_Mo_isOrdered_392 : decode c0_Mo_isOrdered 392 = .ok (.getfield 33, 3) := by decide +kernel
theorem d_Mo_isOrdered_395 : decode c0_Mo_isOrdered 395 = .ok (.iconst 2, 1) := by decide +kernel
theorem d_Mo_isOrdered_396 : decode c0_Mo_isOrdered 396 = .ok (.iaload, 1) := by decide +kernel
theorem d_Mo_isOrdered_397 : decode c0_Mo_isOrdered 397 = .ok (.if_icmp .eq 37, 3) := by decide +kernel
theorem d_Mo_isOrdered_400 : decode c0_Mo_isOrdered 400 = .ok (.aload_n 0, 1) := by decide +kernel
theorem d_Mo_isOrdered_401 : decode c0_Mo_isOrdered 401 = .ok (.getfield 33, 3) := by decide +kernel
theorem d_Mo_isOrdered_404 : decode c0_Mo_isOrdered 404 = .ok (.iconst 1, 1) := by decide +kernel
theorem d_Mo_isOrdered_405 : decode c0_Mo_isOrdered 405 = .ok (.iaload, 1) := by decide +kernel
theorem d_Mo_isOrdered_406 : decode c0_Mo_isOrdered 406 = .ok (.aload_n 0, 1) := by decide +kernel
theorem d_Mo_isOrdered_407 : decode c0_Mo_isOrdered 407 = .ok (.getfield 33, 3) := by decide +kernel
theorem d_Mo_isOrdered_410 : decode c0_Mo_isOrdered 410 = .ok (.iconst 3, 1) := by decide +kernel
theorem d_Mo_isOrdered_411 : decode c0_Mo_isOrdered 411 = .ok (.iaload, 1) := by decide +kernel
theorem d_Mo_isOrdered_412 : decode c0_Mo_isOrdered 412 = .ok (.if_icmp .eq 22, 3) := by decide +kernel
theorem d_Mo_isOrdered_415 : decode c0_Mo_isOrdered 415 = .ok (.aload_n 0, 1) := by decide +kernel
theorem d_Mo_isOrdered_416 : decode c0_Mo_isOrdered 416 = .ok (.getfield 33, 3) := by decide +kernel
theorem d_Mo_isOrdered_419 : decode c0_Mo_isOrdered 419 = .ok (.iconst 0, 1) := by decide +kernel
theorem d_Mo_isOrdered_420 : decode c0_Mo_isOrdered 420 = .ok (.iaload, 1) := by decide +kernel
theorem d_Mo_isOrdered_421 : decode c0_Mo_isOrdered 421 = .ok (.aload_n 0, 1) := by decide +kernel
theorem d_Mo_isOrdered_422 : decode c0_Mo_isOrdered 422 = .ok (.getfield 33, 3) := by decide +kernel
theorem d_Mo_isOrdered_425 : decode c0_Mo_isOrdered 425 = .ok (.iconst 3, 1) := by decide +kernel
theorem d_Mo_isOrdered_426 : decode c0_Mo_isOrdered 426 = .ok (.iaload, 1) := by decide +kernel
theorem d_Mo_isOrdered_427 : decode c0_Mo_isOrdered 427 = .ok (.if_icmp .eq 7, 3) := by decide +kernel
theorem d_Mo_isOrdered_430 : decode c0_Mo_isOrdered 430 = .ok (.iconst 1, 1) := by decide +kernel
theorem d_Mo_isOrdered_431 : decode c0_Mo_isOrdered 431 = .ok (.goto 4, 3) := by decide +kernel
theorem d_Mo_isOrdered_434 : decode c0_Mo_isOrdered 434 = .ok (.iconst 0, 1) := by decide +kernel
theorem d_Mo_isOrdered_435 : decode c0_Mo_isOrdered 435 = .ok (.ireturn, 1) := by decide +kernel
def b_Mo_isOrdered_360 (K : Nat → ClassId) (N : Nat) (o : Nat) (v1 : Int32) (w0 : Int32) (h : fh_H) : Option (Int32 × fh_H) :=
  if w0 = 0 then (some (0, h)) else (if v1 = 2 then ((fg_a h (some o) 6 13).bind fun x1 => (fa_i (K 0) h x1 0).bind fun x2 => (fg_a h (some o) 6 13).bind fun x3 => (fa_i (K 0) h x3 2).bind fun x4 => if x2 = x4 then (some (0, h)) else ((fg_a h (some o) 6 13).bind fun x5 => (fa_i (K 0) h x5 1).bind fun x6 => (fg_a h (some o) 6 13).bind fun x7 => (fa_i (K 0) h x7 2).bind fun x8 => if x6 = x8 then (some (0, h)) else ((fg_a h (some o) 6 13).bind fun x9 => (fa_i (K 0) h x9 1).bind fun x10 => (fg_a h (some o) 6 13).bind fun x11 => (fa_i (K 0) h x11 3).bind fun x12 => if x10 = x12 then (some (0, h)) else ((fg_a h (some o) 6 13).bind fun x13 => (fa_i (K 0) h x13 0).bind fun x14 => (fg_a h (some o) 6 13).bind fun x15 => (fa_i (K 0) h x15 3).bind fun x16 => if x14 = x16 then (some (0, h)) else (some (1, h)))))) else (some (1, h)))
def b_Mo_isOrdered_355 (K : Nat → ClassId) (N : Nat) (o : Nat) (v1 : Int32) (h : fh_H) : Option (Int32 × fh_H) :=
  b_Mo_isOrdered_360 K N o v1 1 h
def b_Mo_isOrdered_359 (K : Nat → ClassId) (N : Nat) (o : Nat) (v1 : Int32) (h : fh_H) : Option (Int32 × fh_H) :=
  b_Mo_isOrdered_360 K N o v1 0 h
def f_Mo_isOrdered (K : Nat → ClassId) (N : Nat) (o : Nat) (a1 : Int32) (h0 : fh_H) : Option (Int32 × fh_H) :=
  if a1 = 0 then ((fg_a h0 (some o) 6 13).bind fun x21 => (fa_i (K 0) h0 x21 0).bind fun x22 => (fg_a h0 (some o) 6 13).bind fun x23 => (fa_i (K 0) h0 x23 1).bind fun x24 => if x24 ≤ x22 then (some (0, h0)) else (some (1, h0))) else (if a1 = 1 then ((fg_a h0 (some o) 6 13).bind fun x25 => (fa_i (K 0) h0 x25 0).bind fun x26 => (fg_a h0 (some o) 6 13).bind fun x27 => (fa_i (K 0) h0 x27 1).bind fun x28 => if x28 ≤ x26 then (some (0, h0)) else ((fg_a h0 (some o) 6 13).bind fun x29 => (fa_i (K 0) h0 x29 1).bind fun x30 => (fg_a h0 (some o) 6 13).bind fun x31 => (fa_i (K 0) h0 x31 2).bind fun x32 => if x32 ≤ x30 then (some (0, h0)) else (some (1, h0)))) else (if a1 = 2 then ((fg_a h0 (some o) 6 13).bind fun x33 => (fa_i (K 0) h0 x33 0).bind fun x34 => (fg_a h0 (some o) 6 13).bind fun x35 => (fa_i (K 0) h0 x35 1).bind fun x36 => if x36 ≤ x34 then (b_Mo_isOrdered_359 K N o a1 h0) else ((fg_a h0 (some o) 6 13).bind fun x37 => (fa_i (K 0) h0 x37 2).bind fun x38 => (fg_a h0 (some o) 6 13).bind fun x39 => (fa_i (K 0) h0 x39 3).bind fun x40 => if x40 ≤ x38 then (b_Mo_isOrdered_359 K N o a1 h0) else ((fg_a h0 (some o) 6 13).bind fun x41 => (fa_i (K 0) h0 x41 0).bind fun x42 => (fg_a h0 (some o) 6 13).bind fun x43 => (fa_i (K 0) h0 x43 2).bind fun x44 => if x42 < x44 then (b_Mo_isOrdered_355 K N o a1 h0) else ((fg_a h0 (some o) 6 13).bind fun x45 => (fa_i (K 0) h0 x45 0).bind fun x46 => (fg_a h0 (some o) 6 13).bind fun x47 => (fa_i (K 0) h0 x47 2).bind fun x48 => if x46 = x48 then ((fg_a h0 (some o) 6 13).bind fun x49 => (fa_i (K 0) h0 x49 1).bind fun x50 => (fg_a h0 (some o) 6 13).bind fun x51 => (fa_i (K 0) h0 x51 3).bind fun x52 => if x52 ≤ x50 then (b_Mo_isOrdered_359 K N o a1 h0) else (b_Mo_isOrdered_355 K N o a1 h0)) else (b_Mo_isOrdered_359 K N o a1 h0))))) else (if a1 = 3 then ((fg_a h0 (some o) 6 13).bind fun x53 => (fa_i (K 0) h0 x53 0).bind fun x54 => (fg_a h0 (some o) 6 13).bind fun x55 => (fa_i (K 0) h0 x55 1).bind fun x56 => if x56 ≤ x54 then (b_Mo_isOrdered_359 K N o a1 h0) else ((fg_a h0 (some o) 6 13).bind fun x57 => (fa_i (K 0) h0 x57 2).bind fun x58 => (fg_a h0 (some o) 6 13).bind fun x59 => (fa_i (K 0) h0 x59 3).bind fun x60 => if x60 ≤ x58 then (b_Mo_isOrdered_359 K N o a1 h0) else ((fg_a h0 (some o) 6 13).bind fun x61 => (fa_i (K 0) h0 x61 0).bind fun x62 => (fg_a h0 (some o) 6 13).bind fun x63 => (fa_i (K 0) h0 x63 2).bind fun x64 => if x62 < x64 then (b_Mo_isOrdered_355 K N o a1 h0) else ((fg_a h0 (some o) 6 13).bind fun x65 => (fa_i (K 0) h0 x65 0).bind fun x66 => (fg_a h0 (some o) 6 13).bind fun x67 => (fa_i (K 0) h0 x67 2).bind fun x68 => if x66 = x68 then ((fg_a h0 (some o) 6 13).bind fun x69 => (fa_i (K 0) h0 x69 1).bind fun x70 => (fg_a h0 (some o) 6 13).bind fun x71 => (fa_i (K 0) h0 x71 3).bind fun x72 => if x72 ≤ x70 then (b_Mo_isOrdered_359 K N o a1 h0) else (b_Mo_isOrdered_355 K N o a1 h0)) else (b_Mo_isOrdered_359 K N o a1 h0))))) else (if a1 = 4 then ((fg_a h0 (some o) 6 13).bind fun x73 => (fa_i (K 0) h0 x73 0).bind fun x74 => (fg_a h0 (some o) 6 13).bind fun x75 => (fa_i (K 0) h0 x75 1).bind fun x76 => if x76 ≤ x74 then (b_Mo_isOrdered_359 K N o a1 h0) else ((fg_a h0 (some o) 6 13).bind fun x77 => (fa_i (K 0) h0 x77 2).bind fun x78 => (fg_a h0 (some o) 6 13).bind fun x79 => (fa_i (K 0) h0 x79 3).bind fun x80 => if x80 ≤ x78 then (b_Mo_isOrdered_359 K N o a1 h0) else ((fg_a h0 (some o) 6 13).bind fun x81 => (fa_i (K 0) h0 x81 0).bind fun x82 => (fg_a h0 (some o) 6 13).bind fun x83 => (fa_i (K 0) h0 x83 2).bind fun x84 => if x82 < x84 then (b_Mo_isOrdered_355 K N o a1 h0) else ((fg_a h0 (some o) 6 13).bind fun x85 => (fa_i (K 0) h0 x85 0).bind fun x86 => (fg_a h0 (some o) 6 13).bind fun x87 => (fa_i (K 0) h0 x87 2).bind fun x88 => if x86 = x88 then ((fg_a h0 (some o) 6 13).bind fun x89 => (fa_i (K 0) h0 x89 1).bind fun x90 => (fg_a h0 (some o) 6 13).bind fun x91 => (fa_i (K 0) h0 x91 3).bind fun x92 => if x92 ≤ x90 then (b_Mo_isOrdered_359 K N o a1 h0) else (b_Mo_isOrdered_355 K N o a1 h0)) else (b_Mo_isOrdered_359 K N o a1 h0))))) else (if a1 = 5 then ((fg_a h0 (some o) 6 13).bind fun x93 => (fa_i (K 0) h0 x93 0).bind fun x94 => (fg_a h0 (some o) 6 13).bind fun x95 => (fa_i (K 0) h0 x95 1).bind fun x96 => if x96 ≤ x94 then (some (0, h0)) else ((fg_a h0 (some o) 6 13).bind fun x97 => (fa_i (K 0) h0 x97 1).bind fun x98 => (fg_a h0 (some o) 6 13).bind fun x99 => (fa_i (K 0) h0 x99 2).bind fun x100 => if x100 ≤ x98 then (some (0, h0)) else ((fg_a h0 (some o) 6 13).bind fun x101 => (fa_i (K 0) h0 x101 2).bind fun x102 => (fg_a h0 (some o) 6 13).bind fun x103 => (fa_i (K 0) h0 x103 3).bind fun x104 => if x104 ≤ x102 then (some (0, h0)) else (some (1, h0))))) else (if a1 = 6 then ((fg_a h0 (some o) 6 13).bind fun x105 => (fa_i (K 0) h0 x105 1).bind fun x106 => (fg_a h0 (some o) 6 13).bind fun x107 => (fa_i (K 0) h0 x107 2).bind fun x108 => if x108 ≤ x106 then (some (0, h0)) else ((fg_a h0 (some o) 6 13).bind fun x109 => (fa_i (K 0) h0 x109 0).bind fun x110 => (fg_a h0 (some o) 6 13).bind fun x111 => (fa_i (K 0) h0 x111 1).bind fun x112 => if x110 = x112 then (some (0, h0)) else ((fg_a h0 (some o) 6 13).bind fun x113 => (fa_i (K 0) h0 x113 0).bind fun x114 => (fg_a h0 (some o) 6 13).bind fun x115 => (fa_i (K 0) h0 x115 2).bind fun x116 => if x114 = x116 then (some (0, h0)) else (some (1, h0))))) else (if a1 = 7 then ((fg_a h0 (some o) 6 13).bind fun x117 => (fa_i (K 0) h0 x117 0).bind fun x118 => (fg_a h0 (some o) 6 13).bind fun x119 => (fa_i (K 0) h0 x119 1).bind fun x120 => if x120 ≤ x118 then (some (0, h0)) else ((fg_a h0 (some o) 6 13).bind fun x121 => (fa_i (K 0) h0 x121 1).bind fun x122 => (fg_a h0 (some o) 6 13).bind fun x123 => (fa_i (K 0) h0 x123 2).bind fun x124 => if x124 ≤ x122 then (some (0, h0)) else ((fg_a h0 (some o) 6 13).bind fun x125 => (fa_i (K 0) h0 x125 3).bind fun x126 => (fg_a h0 (some o) 6 13).bind fun x127 => (fa_i (K 0) h0 x127 4).bind fun x128 => if x128 ≤ x126 then (some (0, h0)) else ((fg_a h0 (some o) 6 13).bind fun x129 => (fa_i (K 0) h0 x129 4).bind fun x130 => (fg_a h0 (some o) 6 13).bind fun x131 => (fa_i (K 0) h0 x131 5).bind fun x132 => if x132 ≤ x130 then (some (0, h0)) else ((fg_o h0 (some o) 6).bind fun o133 => (f_Mo_isBefore K N o133 h0).bind fun r134 => if r134.1 = 0 then (some (0, r134.2)) else (some (1, r134.2))))))) else ((fg_a h0 (some o) 6 13).bind fun x1 => (fa_i (K 0) h0 x1 0).bind fun x2 => (fg_a h0 (some o) 6 13).bind fun x3 => (fa_i (K 0) h0 x3 1).bind fun x4 => if x4 ≤ x2 then (b_Mo_isOrdered_359 K N o a1 h0) else ((fg_a h0 (some o) 6 13).bind fun x5 => (fa_i (K 0) h0 x5 2).bind fun x6 => (fg_a h0 (some o) 6 13).bind fun x7 => (fa_i (K 0) h0 x7 3).bind fun x8 => if x8 ≤ x6 then (b_Mo_isOrdered_359 K N o a1 h0) else ((fg_a h0 (some o) 6 13).bind fun x9 => (fa_i (K 0) h0 x9 0).bind fun x10 => (fg_a h0 (some o) 6 13).bind fun x11 => (fa_i (K 0) h0 x11 2).bind fun x12 => if x10 < x12 then (b_Mo_isOrdered_355 K N o a1 h0) else ((fg_a h0 (some o) 6 13).bind fun x13 => (fa_i (K 0) h0 x13 0).bind fun x14 => (fg_a h0 (some o) 6 13).bind fun x15 => (fa_i (K 0) h0 x15 2).bind fun x16 => if x14 = x16 then ((fg_a h0 (some o) 6 13).bind fun x17 => (fa_i (K 0) h0 x17 1).bind fun x18 => (fg_a h0 (some o) 6 13).bind fun x19 => (fa_i (K 0) h0 x19 3).bind fun x20 => if x20 ≤ x18 then (b_Mo_isOrdered_359 K N o a1 h0) else (b_Mo_isOrdered_355 K N o a1 h0)) else (b_Mo_isOrdered_359 K N o a1 h0))))))))))))
set_option maxHeartbeats 4000000 in
set_option maxRecDepth 100000 in
theorem c_Mo_isOrdered {l : Launch} {D : va_G} {K : Nat → ClassId} {t : Nat → Nat} {N : Nat} {o : Nat} {a1 : Int32} {h0 : fh_H} {res : Int32 × fh_H} (hf : f_Mo_isOrdered K N o a1 h0 = some res) : fC l D K t y_Mo_isOrdered c0_Mo_isOrdered 3 (some .boolean) rm_Mo_isOrdered [.ref o, .int a1] h0 (some (.int res.1)) res.2 := by
  refine fh_body (by decide) (Nat.le_of_ble_eq_true rfl) ?_
  intro p e s m below meth c A ls S hr hk hnm hE hAe hI hl
  obtain ⟨hx, hb, hml, hown, hts⟩ := id S
  have hl : lv_has ls 3 [(0, va_rf (some o)), (1, .int a1)] := hl
  have B360 : ∀ (v1 : Int32) (w0 : Int32) (h : fh_H) (H : Heap) (locs : List Loc) (ls : Array Slot), lv_has ls 3 [(0, va_rf (some o)), (1, .int v1)] → fh_I D classes A s.heap h H locs → b_Mo_isOrdered_360 K N o v1 w0 h = some res → W p l e rm_Mo_isOrdered s m [.ref o, .int a1].toArray below meth c H locs 0 0 (MQ below (fh_Q D classes h0 s.heap.size (some (.int res.1)) res.2) [.ref o, .int a1].toArray s 0 0 A) (F0 m 360 ls [.int w0]) := by
    intro v1 w0 h H locs ls hl hI hf
    unfold b_Mo_isOrdered_360 at hf
    refine lv_istore_n (lv' := [(2, .int w0), (0, va_rf (some o)), (1, .int v1)]) hx hb d_Mo_isOrdered_360 rfl hl (by decide) rfl (fun ls hl => ?_)
    refine lv_iload_n hx hb d_Mo_isOrdered_361 rfl (lv_at hl 0 rfl) ?_
    refine lv_if_eq (tgt := 434) hx hb d_Mo_isOrdered_362 (by decide) (fun c_362 => ?_) (fun c_362 => ?_)
    · replace hf := fh_t c_362 hf
      refine lv_iconst (v := 0) hx hb d_Mo_isOrdered_434 (by decide) ?_
      obtain rfl := Option.some.inj hf
      exact fh_iret S hr hk (fh_nb (Or.inl rfl)) hAe hI d_Mo_isOrdered_435
    · replace hf := fh_f c_362 hf
      refine lv_iload_n hx hb d_Mo_isOrdered_365 rfl (lv_at hl 2 rfl) ?_
      refine lv_iconst (v := 2) hx hb d_Mo_isOrdered_366 (by decide) ?_
      refine lv_icmp_ne (tgt := 430) hx hb d_Mo_isOrdered_367 (by decide) (fun c_367 => ?_) (fun c_367 => ?_)
      · replace hf := fh_f c_367 hf
        refine lv_iconst (v := 1) hx hb d_Mo_isOrdered_430 (by decide) ?_
        refine lv_goto (tgt := 435) hx hb d_Mo_isOrdered_431 (by decide) ?_
        obtain rfl := Option.some.inj hf
        exact fh_iret S hr hk (fh_nb (Or.inr rfl)) hAe hI d_Mo_isOrdered_435
      · replace hf := fh_t c_367 hf
        refine fh_aload_n S d_Mo_isOrdered_370 rfl (lv_at hl 1 rfl) ?_
        obtain ⟨x1, e_x1, hf⟩ := fh_b hf
        refine fh_geta S hE.1 hI e_x1 (hc := rfl) (hin := in_6) (by decide) (hts _ k_178) d_Mo_isOrdered_371 ?_
        refine lv_iconst (v := 0) hx hb d_Mo_isOrdered_374 (by decide) ?_
        obtain ⟨x2, e_x2, hf⟩ := fh_b hf
        refine fh_iald S hE.1 hI 0 rfl e_x2 d_Mo_isOrdered_375 ?_
        refine fh_aload_n S d_Mo_isOrdered_376 rfl (lv_at hl 1 rfl) ?_
        obtain ⟨x3, e_x3, hf⟩ := fh_b hf
        refine fh_geta S hE.1 hI e_x3 (hc := rfl) (hin := in_6) (by decide) (hts _ k_178) d_Mo_isOrdered_377 ?_
        refine lv_iconst (v := 2) hx hb d_Mo_isOrdered_380 (by decide) ?_
        obtain ⟨x4, e_x4, hf⟩ := fh_b hf
        refine fh_iald S hE.1 hI 0 rfl e_x4 d_Mo_isOrdered_381 ?_
        refine lv_icmp_eq (tgt := 434) hx hb d_Mo_isOrdered_382 (by decide) (fun c_382 => ?_) (fun c_382 => ?_)
        · replace hf := fh_t c_382 hf
          refine lv_iconst (v := 0) hx hb d_Mo_isOrdered_434 (by decide) ?_
          obtain rfl := Option.some.inj hf
          exact fh_iret S hr hk (fh_nb (Or.inl rfl)) hAe hI d_Mo_isOrdered_435
        · replace hf := fh_f c_382 hf
          refine fh_aload_n S d_Mo_isOrdered_385 rfl (lv_at hl 1 rfl) ?_
          obtain ⟨x5, e_x5, hf⟩ := fh_b hf
          refine fh_geta S hE.1 hI e_x5 (hc := rfl) (hin := in_6) (by decide) (hts _ k_178) d_Mo_isOrdered_386 ?_
          refine lv_iconst (v := 1) hx hb d_Mo_isOrdered_389 (by decide) ?_
          obtain ⟨x6, e_x6, hf⟩ := fh_b hf
          refine fh_iald S hE.1 hI 0 rfl e_x6 d_Mo_isOrdered_390 ?_
          refine fh_aload_n S d_Mo_isOrdered_391 rfl (lv_at hl 1 rfl) ?_
          obtain ⟨x7, e_x7, hf⟩ := fh_b hf
          refine fh_geta S hE.1 hI e_x7 (hc := rfl) (hin := in_6) (by decide) (hts _ k_178) d_Mo_isOrdered_392 ?_
          refine lv_iconst (v := 2) hx hb d_Mo_isOrdered_395 (by decide) ?_
          obtain ⟨x8, e_x8, hf⟩ := fh_b hf
          refine fh_iald S hE.1 hI 0 rfl e_x8 d_Mo_isOrdered_396 ?_
          refine lv_icmp_eq (tgt := 434) hx hb d_Mo_isOrdered_397 (by decide) (fun c_397 => ?_) (fun c_397 => ?_)
          · replace hf := fh_t c_397 hf
            refine lv_iconst (v := 0) hx hb d_Mo_isOrdered_434 (by decide) ?_
            obtain rfl := Option.some.inj hf
            exact fh_iret S hr hk (fh_nb (Or.inl rfl)) hAe hI d_Mo_isOrdered_435
          · replace hf := fh_f c_397 hf
            refine fh_aload_n S d_Mo_isOrdered_400 rfl (lv_at hl 1 rfl) ?_
            obtain ⟨x9, e_x9, hf⟩ := fh_b hf
            refine fh_geta S hE.1 hI e_x9 (hc := rfl) (hin := in_6) (by decide) (hts _ k_178) d_Mo_isOrdered_401 ?_
            refine lv_iconst (v := 1) hx hb d_Mo_isOrdered_404 (by decide) ?_
            obtain ⟨x10, e_x10, hf⟩ := fh_b hf
            refine fh_iald S hE.1 hI 0 rfl e_x10 d_Mo_isOrdered_405 ?_
            refine fh_aload_n S d_Mo_isOrdered_406 rfl (lv_at hl 1 rfl) ?_
            obtain ⟨x11, e_x11, hf⟩ := fh_b hf
            refine fh_geta S hE.1 hI e_x11 (hc := rfl) (hin := in_6) (by decide) (hts _ k_178) d_Mo_isOrdered_407 ?_
            refine lv_iconst (v := 3) hx hb d_Mo_isOrdered_410 (by decide) ?_
            obtain ⟨x12, e_x12, hf⟩ := fh_b hf
            refine fh_iald S hE.1 hI 0 rfl e_x12 d_Mo_isOrdered_411 ?_
            refine lv_icmp_eq (tgt := 434) hx hb d_Mo_isOrdered_412 (by decide) (fun c_412 => ?_) (fun c_412 => ?_)
            · replace hf := fh_t c_412 hf
              refine lv_iconst (v := 0) hx hb d_Mo_isOrdered_434 (by decide) ?_
              obtain rfl := Option.some.inj hf
              exact fh_iret S hr hk (fh_nb (Or.inl rfl)) hAe hI d_Mo_isOrdered_435
            · replace hf := fh_f c_412 hf
              refine fh_aload_n S d_Mo_isOrdered_415 rfl (lv_at hl 1 rfl) ?_
              obtain ⟨x13, e_x13, hf⟩ := fh_b hf
              refine fh_geta S hE.1 hI e_x13 (hc := rfl) (hin := in_6) (by decide) (hts _ k_178) d_Mo_isOrdered_416 ?_
              refine lv_iconst (v := 0) hx hb d_Mo_isOrdered_419 (by decide) ?_
              obtain ⟨x14, e_x14, hf⟩ := fh_b hf
              refine fh_iald S hE.1 hI 0 rfl e_x14 d_Mo_isOrdered_420 ?_
              refine fh_aload_n S d_Mo_isOrdered_421 rfl (lv_at hl 1 rfl) ?_
              obtain ⟨x15, e_x15, hf⟩ := fh_b hf
              refine fh_geta S hE.1 hI e_x15 (hc := rfl) (hin := in_6) (by decide) (hts _ k_178) d_Mo_isOrdered_422 ?_
              refine lv_iconst (v := 3) hx hb d_Mo_isOrdered_425 (by decide) ?_
              obtain ⟨x16, e_x16, hf⟩ := fh_b hf
              refine fh_iald S hE.1 hI 0 rfl e_x16 d_Mo_isOrdered_426 ?_
              refine lv_icmp_eq (tgt := 434) hx hb d_Mo_isOrdered_427 (by decide) (fun c_427 => ?_) (fun c_427 => ?_)
              · replace hf := fh_t c_427 hf
                refine lv_iconst (v := 0) hx hb d_Mo_isOrdered_434 (by decide) ?_
                obtain rfl := Option.some.inj hf
                exact fh_iret S hr hk (fh_nb (Or.inl rfl)) hAe hI d_Mo_isOrdered_435
              · replace hf := fh_f c_427 hf
                refine lv_iconst (v := 1) hx hb d_Mo_isOrdered_430 (by decide) ?_
                refine lv_goto (tgt := 435) hx hb d_Mo_isOrdered_431 (by decide) ?_
                obtain rfl := Option.some.inj hf
                exact fh_iret S hr hk (fh_nb (Or.inr rfl)) hAe hI d_Mo_isOrdered_435
  have B355 : ∀ (v1 : Int32) (h : fh_H) (H : Heap) (locs : List Loc) (ls : Array Slot), lv_has ls 3 [(0, va_rf (some o)), (1, .int v1)] → fh_I D classes A s.heap h H locs → b_Mo_isOrdered_355 K N o v1 h = some res → W p l e rm_Mo_isOrdered s m [.ref o, .int a1].toArray below meth c H locs 0 0 (MQ below (fh_Q D classes h0 s.heap.size (some (.int res.1)) res.2) [.ref o, .int a1].toArray s 0 0 A) (F0 m 355 ls []) := by
    intro v1 h H locs ls hl hI hf
    unfold b_Mo_isOrdered_355 at hf
    refine lv_iconst (v := 1) hx hb d_Mo_isOrdered_355 (by decide) ?_
    refine lv_goto (tgt := 360) hx hb d_Mo_isOrdered_356 (by decide) ?_
    exact B360 v1 1 h _ _ _ (lv_sub hl [0, 1] rfl) hI hf
  have B359 : ∀ (v1 : Int32) (h : fh_H) (H : Heap) (locs : List Loc) (ls : Array Slot), lv_has ls 3 [(0, va_rf (some o)), (1, .int v1)] → fh_I D classes A s.heap h H locs → b_Mo_isOrdered_359 K N o v1 h = some res → W p l e rm_Mo_isOrdered s m [.ref o, .int a1].toArray below meth c H locs 0 0 (MQ below (fh_Q D classes h0 s.heap.size (some (.int res.1)) res.2) [.ref o, .int a1].toArray s 0 0 A) (F0 m 359 ls []) := by
    intro v1 h H locs ls hl hI hf
    unfold b_Mo_isOrdered_359 at hf
    refine lv_iconst (v := 0) hx hb d_Mo_isOrdered_359 (by decide) ?_
    exact B360 v1 0 h _ _ _ (lv_sub hl [0, 1] rfl) hI hf
  unfold f_Mo_isOrdered at hf
  refine lv_iload_n hx hb d_Mo_isOrdered_0 rfl (lv_at hl 1 rfl) ?_
  by_cases c_1_0 : a1 = 0
  · replace hf := fh_t c_1_0 hf
    refine lv_tableIn (tgt := 48) hx hb d_Mo_isOrdered_1 (by rw [c_1_0]; decide) (by rw [c_1_0]; decide) (off := 47) (by rw [c_1_0]; decide) (by decide) ?_
    refine fh_aload_n S d_Mo_isOrdered_48 rfl (lv_at hl 0 rfl) ?_
    obtain ⟨x21, e_x21, hf⟩ := fh_b hf
    refine fh_geta S hE.1 hI e_x21 (hc := rfl) (hin := in_6) (by decide) (hts _ k_178) d_Mo_isOrdered_49 ?_
    refine lv_iconst (v := 0) hx hb d_Mo_isOrdered_52 (by decide) ?_
    obtain ⟨x22, e_x22, hf⟩ := fh_b hf
    refine fh_iald S hE.1 hI 0 rfl e_x22 d_Mo_isOrdered_53 ?_
    refine fh_aload_n S d_Mo_isOrdered_54 rfl (lv_at hl 0 rfl) ?_
    obtain ⟨x23, e_x23, hf⟩ := fh_b hf
    refine fh_geta S hE.1 hI e_x23 (hc := rfl) (hin := in_6) (by decide) (hts _ k_178) d_Mo_isOrdered_55 ?_
    refine lv_iconst (v := 1) hx hb d_Mo_isOrdered_58 (by decide) ?_
    obtain ⟨x24, e_x24, hf⟩ := fh_b hf
    refine fh_iald S hE.1 hI 0 rfl e_x24 d_Mo_isOrdered_59 ?_
    refine lv_icmp_ge (tgt := 67) hx hb d_Mo_isOrdered_60 (by decide) (fun c_60 => ?_) (fun c_60 => ?_)
    · replace hf := fh_t c_60 hf
      refine lv_iconst (v := 0) hx hb d_Mo_isOrdered_67 (by decide) ?_
      obtain rfl := Option.some.inj hf
      exact fh_iret S hr hk (fh_nb (Or.inl rfl)) hAe hI d_Mo_isOrdered_68
    · replace hf := fh_f c_60 hf
      refine lv_iconst (v := 1) hx hb d_Mo_isOrdered_63 (by decide) ?_
      refine lv_goto (tgt := 68) hx hb d_Mo_isOrdered_64 (by decide) ?_
      obtain rfl := Option.some.inj hf
      exact fh_iret S hr hk (fh_nb (Or.inr rfl)) hAe hI d_Mo_isOrdered_68
  replace hf := fh_f c_1_0 hf
  by_cases c_1_1 : a1 = 1
  · replace hf := fh_t c_1_1 hf
    refine lv_tableIn (tgt := 69) hx hb d_Mo_isOrdered_1 (by rw [c_1_1]; decide) (by rw [c_1_1]; decide) (off := 68) (by rw [c_1_1]; decide) (by decide) ?_
    refine fh_aload_n S d_Mo_isOrdered_69 rfl (lv_at hl 0 rfl) ?_
    obtain ⟨x25, e_x25, hf⟩ := fh_b hf
    refine fh_geta S hE.1 hI e_x25 (hc := rfl) (hin := in_6) (by decide) (hts _ k_178) d_Mo_isOrdered_70 ?_
    refine lv_iconst (v := 0) hx hb d_Mo_isOrdered_73 (by decide) ?_
    obtain ⟨x26, e_x26, hf⟩ := fh_b hf
    refine fh_iald S hE.1 hI 0 rfl e_x26 d_Mo_isOrdered_74 ?_
    refine fh_aload_n S d_Mo_isOrdered_75 rfl (lv_at hl 0 rfl) ?_
    obtain ⟨x27, e_x27, hf⟩ := fh_b hf
    refine fh_geta S hE.1 hI e_x27 (hc := rfl) (hin := in_6) (by decide) (hts _ k_178) d_Mo_isOrdered_76 ?_
    refine lv_iconst (v := 1) hx hb d_Mo_isOrdered_79 (by decide) ?_
    obtain ⟨x28, e_x28, hf⟩ := fh_b hf
    refine fh_iald S hE.1 hI 0 rfl e_x28 d_Mo_isOrdered_80 ?_
    refine lv_icmp_ge (tgt := 103) hx hb d_Mo_isOrdered_81 (by decide) (fun c_81 => ?_) (fun c_81 => ?_)
    · replace hf := fh_t c_81 hf
      refine lv_iconst (v := 0) hx hb d_Mo_isOrdered_103 (by decide) ?_
      obtain rfl := Option.some.inj hf
      exact fh_iret S hr hk (fh_nb (Or.inl rfl)) hAe hI d_Mo_isOrdered_104
    · replace hf := fh_f c_81 hf
      refine fh_aload_n S d_Mo_isOrdered_84 rfl (lv_at hl 0 rfl) ?_
      obtain ⟨x29, e_x29, hf⟩ := fh_b hf
      refine fh_geta S hE.1 hI e_x29 (hc := rfl) (hin := in_6) (by decide) (hts _ k_178) d_Mo_isOrdered_85 ?_
      refine lv_iconst (v := 1) hx hb d_Mo_isOrdered_88 (by decide) ?_
      obtain ⟨x30, e_x30, hf⟩ := fh_b hf
      refine fh_iald S hE.1 hI 0 rfl e_x30 d_Mo_isOrdered_89 ?_
      refine fh_aload_n S d_Mo_isOrdered_90 rfl (lv_at hl 0 rfl) ?_
      obtain ⟨x31, e_x31, hf⟩ := fh_b hf
      refine fh_geta S hE.1 hI e_x31 (hc := rfl) (hin := in_6) (by decide) (hts _ k_178) d_Mo_isOrdered_91 ?_
      refine lv_iconst (v := 2) hx hb d_Mo_isOrdered_94 (by decide) ?_
      obtain ⟨x32, e_x32, hf⟩ := fh_b hf
      refine fh_iald S hE.1 hI 0 rfl e_x32 d_Mo_isOrdered_95 ?_
      refine lv_icmp_ge (tgt := 103) hx hb d_Mo_isOrdered_96 (by decide) (fun c_96 => ?_) (fun c_96 => ?_)
      · replace hf := fh_t c_96 hf
        refine lv_iconst (v := 0) hx hb d_Mo_isOrdered_103 (by decide) ?_
        obtain rfl := Option.some.inj hf
        exact fh_iret S hr hk (fh_nb (Or.inl rfl)) hAe hI d_Mo_isOrdered_104
      · replace hf := fh_f c_96 hf
        refine lv_iconst (v := 1) hx hb d_Mo_isOrdered_99 (by decide) ?_
        refine lv_goto (tgt := 104) hx hb d_Mo_isOrdered_100 (by decide) ?_
        obtain rfl := Option.some.inj hf
        exact fh_iret S hr hk (fh_nb (Or.inr rfl)) hAe hI d_Mo_isOrdered_104
  replace hf := fh_f c_1_1 hf
  by_cases c_1_2 : a1 = 2
  · replace hf := fh_t c_1_2 hf
    refine lv_tableIn (tgt := 280) hx hb d_Mo_isOrdered_1 (by rw [c_1_2]; decide) (by rw [c_1_2]; decide) (off := 279) (by rw [c_1_2]; decide) (by decide) ?_
    refine fh_aload_n S d_Mo_isOrdered_280 rfl (lv_at hl 0 rfl) ?_
    obtain ⟨x33, e_x33, hf⟩ := fh_b hf
    refine fh_geta S hE.1 hI e_x33 (hc := rfl) (hin := in_6) (by decide) (hts _ k_178) d_Mo_isOrdered_281 ?_
    refine lv_iconst (v := 0) hx hb d_Mo_isOrdered_284 (by decide) ?_
    obtain ⟨x34, e_x34, hf⟩ := fh_b hf
    refine fh_iald S hE.1 hI 0 rfl e_x34 d_Mo_isOrdered_285 ?_
    refine fh_aload_n S d_Mo_isOrdered_286 rfl (lv_at hl 0 rfl) ?_
    obtain ⟨x35, e_x35, hf⟩ := fh_b hf
    refine fh_geta S hE.1 hI e_x35 (hc := rfl) (hin := in_6) (by decide) (hts _ k_178) d_Mo_isOrdered_287 ?_
    refine lv_iconst (v := 1) hx hb d_Mo_isOrdered_290 (by decide) ?_
    obtain ⟨x36, e_x36, hf⟩ := fh_b hf
    refine fh_iald S hE.1 hI 0 rfl e_x36 d_Mo_isOrdered_291 ?_
    refine lv_icmp_ge (tgt := 359) hx hb d_Mo_isOrdered_292 (by decide) (fun c_292 => ?_) (fun c_292 => ?_)
    · replace hf := fh_t c_292 hf
      exact B359 a1 h0 _ _ _ (lv_sub hl [0, 1] rfl) hI hf
    · replace hf := fh_f c_292 hf
      refine fh_aload_n S d_Mo_isOrdered_295 rfl (lv_at hl 0 rfl) ?_
      obtain ⟨x37, e_x37, hf⟩ := fh_b hf
      refine fh_geta S hE.1 hI e_x37 (hc := rfl) (hin := in_6) (by decide) (hts _ k_178) d_Mo_isOrdered_296 ?_
      refine lv_iconst (v := 2) hx hb d_Mo_isOrdered_299 (by decide) ?_
      obtain ⟨x38, e_x38, hf⟩ := fh_b hf
      refine fh_iald S hE.1 hI 0 rfl e_x38 d_Mo_isOrdered_300 ?_
      refine fh_aload_n S d_Mo_isOrdered_301 rfl (lv_at hl 0 rfl) ?_
      obtain ⟨x39, e_x39, hf⟩ := fh_b hf
      refine fh_geta S hE.1 hI e_x39 (hc := rfl) (hin := in_6) (by decide) (hts _ k_178) d_Mo_isOrdered_302 ?_
      refine lv_iconst (v := 3) hx hb d_Mo_isOrdered_305 (by decide) ?_
      obtain ⟨x40, e_x40, hf⟩ := fh_b hf
      refine fh_iald S hE.1 hI 0 rfl e_x40 d_Mo_isOrdered_306 ?_
      refine lv_icmp_ge (tgt := 359) hx hb d_Mo_isOrdered_307 (by decide) (fun c_307 => ?_) (fun c_307 => ?_)
      · replace hf := fh_t c_307 hf
        exact B359 a1 h0 _ _ _ (lv_sub hl [0, 1] rfl) hI hf
      · replace hf := fh_f c_307 hf
        refine fh_aload_n S d_Mo_isOrdered_310 rfl (lv_at hl 0 rfl) ?_
        obtain ⟨x41, e_x41, hf⟩ := fh_b hf
        refine fh_geta S hE.1 hI e_x41 (hc := rfl) (hin := in_6) (by decide) (hts _ k_178) d_Mo_isOrdered_311 ?_
        refine lv_iconst (v := 0) hx hb d_Mo_isOrdered_314 (by decide) ?_
        obtain ⟨x42, e_x42, hf⟩ := fh_b hf
        refine fh_iald S hE.1 hI 0 rfl e_x42 d_Mo_isOrdered_315 ?_
        refine fh_aload_n S d_Mo_isOrdered_316 rfl (lv_at hl 0 rfl) ?_
        obtain ⟨x43, e_x43, hf⟩ := fh_b hf
        refine fh_geta S hE.1 hI e_x43 (hc := rfl) (hin := in_6) (by decide) (hts _ k_178) d_Mo_isOrdered_317 ?_
        refine lv_iconst (v := 2) hx hb d_Mo_isOrdered_320 (by decide) ?_
        obtain ⟨x44, e_x44, hf⟩ := fh_b hf
        refine fh_iald S hE.1 hI 0 rfl e_x44 d_Mo_isOrdered_321 ?_
        refine lv_icmp_lt (tgt := 355) hx hb d_Mo_isOrdered_322 (by decide) (fun c_322 => ?_) (fun c_322 => ?_)
        · replace hf := fh_t c_322 hf
          exact B355 a1 h0 _ _ _ (lv_sub hl [0, 1] rfl) hI hf
        · replace hf := fh_f c_322 hf
          refine fh_aload_n S d_Mo_isOrdered_325 rfl (lv_at hl 0 rfl) ?_
          obtain ⟨x45, e_x45, hf⟩ := fh_b hf
          refine fh_geta S hE.1 hI e_x45 (hc := rfl) (hin := in_6) (by decide) (hts _ k_178) d_Mo_isOrdered_326 ?_
          refine lv_iconst (v := 0) hx hb d_Mo_isOrdered_329 (by decide) ?_
          obtain ⟨x46, e_x46, hf⟩ := fh_b hf
          refine fh_iald S hE.1 hI 0 rfl e_x46 d_Mo_isOrdered_330 ?_
          refine fh_aload_n S d_Mo_isOrdered_331 rfl (lv_at hl 0 rfl) ?_
          obtain ⟨x47, e_x47, hf⟩ := fh_b hf
          refine fh_geta S hE.1 hI e_x47 (hc := rfl) (hin := in_6) (by decide) (hts _ k_178) d_Mo_isOrdered_332 ?_
          refine lv_iconst (v := 2) hx hb d_Mo_isOrdered_335 (by decide) ?_
          obtain ⟨x48, e_x48, hf⟩ := fh_b hf
          refine fh_iald S hE.1 hI 0 rfl e_x48 d_Mo_isOrdered_336 ?_
          refine lv_icmp_ne (tgt := 359) hx hb d_Mo_isOrdered_337 (by decide) (fun c_337 => ?_) (fun c_337 => ?_)
          · replace hf := fh_f c_337 hf
            exact B359 a1 h0 _ _ _ (lv_sub hl [0, 1] rfl) hI hf
          · replace hf := fh_t c_337 hf
            refine fh_aload_n S d_Mo_isOrdered_340 rfl (lv_at hl 0 rfl) ?_
            obtain ⟨x49, e_x49, hf⟩ := fh_b hf
            refine fh_geta S hE.1 hI e_x49 (hc := rfl) (hin := in_6) (by decide) (hts _ k_178) d_Mo_isOrdered_341 ?_
            refine lv_iconst (v := 1) hx hb d_Mo_isOrdered_344 (by decide) ?_
            obtain ⟨x50, e_x50, hf⟩ := fh_b hf
            refine fh_iald S hE.1 hI 0 rfl e_x50 d_Mo_isOrdered_345 ?_
            refine fh_aload_n S d_Mo_isOrdered_346 rfl (lv_at hl 0 rfl) ?_
            obtain ⟨x51, e_x51, hf⟩ := fh_b hf
            refine fh_geta S hE.1 hI e_x51 (hc := rfl) (hin := in_6) (by decide) (hts _ k_178) d_Mo_isOrdered_347 ?_
            refine lv_iconst (v := 3) hx hb d_Mo_isOrdered_350 (by decide) ?_
            obtain ⟨x52, e_x52, hf⟩ := fh_b hf
            refine fh_iald S hE.1 hI 0 rfl e_x52 d_Mo_isOrdered_351 ?_
            refine lv_icmp_ge (tgt := 359) hx hb d_Mo_isOrdered_352 (by decide) (fun c_352 => ?_) (fun c_352 => ?_)
            · replace hf := fh_t c_352 hf
              exact B359 a1 h0 _ _ _ (lv_sub hl [0, 1] rfl) hI hf
            · replace hf := fh_f c_352 hf
              exact B355 a1 h0 _ _ _ (lv_sub hl [0, 1] rfl) hI hf
  replace hf := fh_f c_1_2 hf
  by_cases c_1_3 : a1 = 3
  · replace hf := fh_t c_1_3 hf
    refine lv_tableIn (tgt := 280) hx hb d_Mo_isOrdered_1 (by rw [c_1_3]; decide) (by rw [c_1_3]; decide) (off := 279) (by rw [c_1_3]; decide) (by decide) ?_
    refine fh_aload_n S d_Mo_isOrdered_280 rfl (lv_at hl 0 rfl) ?_
    obtain ⟨x53, e_x53, hf⟩ := fh_b hf
    refine fh_geta S hE.1 hI e_x53 (hc := rfl) (hin := in_6) (by decide) (hts _ k_178) d_Mo_isOrdered_281 ?_
    refine lv_iconst (v := 0) hx hb d_Mo_isOrdered_284 (by decide) ?_
    obtain ⟨x54, e_x54, hf⟩ := fh_b hf
    refine fh_iald S hE.1 hI 0 rfl e_x54 d_Mo_isOrdered_285 ?_
    refine fh_aload_n S d_Mo_isOrdered_286 rfl (lv_at hl 0 rfl) ?_
    obtain ⟨x55, e_x55, hf⟩ := fh_b hf
    refine fh_geta S hE.1 hI e_x55 (hc := rfl) (hin := in_6) (by decide) (hts _ k_178) d_Mo_isOrdered_287 ?_
    refine lv_iconst (v := 1) hx hb d_Mo_isOrdered_290 (by decide) ?_
    obtain ⟨x56, e_x56, hf⟩ := fh_b hf
    refine fh_iald S hE.1 hI 0 rfl e_x56 d_Mo_isOrdered_291 ?_
    refine lv_icmp_ge (tgt := 359) hx hb d_Mo_isOrdered_292 (by decide) (fun c_292 => ?_) (fun c_292 => ?_)
    · replace hf := fh_t c_292 hf
      exact B359 a1 h0 _ _ _ (lv_sub hl [0, 1] rfl) hI hf
    · replace hf := fh_f c_292 hf
      refine fh_aload_n S d_Mo_isOrdered_295 rfl (lv_at hl 0 rfl) ?_
      obtain ⟨x57, e_x57, hf⟩ := fh_b hf
      refine fh_geta S hE.1 hI e_x57 (hc := rfl) (hin := in_6) (by decide) (hts _ k_178) d_Mo_isOrdered_296 ?_
      refine lv_iconst (v := 2) hx hb d_Mo_isOrdered_299 (by decide) ?_
      obtain ⟨x58, e_x58, hf⟩ := fh_b hf
      refine fh_iald S hE.1 hI 0 rfl e_x58 d_Mo_isOrdered_300 ?_
      refine fh_aload_n S d_Mo_isOrdered_301 rfl (lv_at hl 0 rfl) ?_
      obtain ⟨x59, e_x59, hf⟩ := fh_b hf
      refine fh_geta S hE.1 hI e_x59 (hc := rfl) (hin := in_6) (by decide) (hts _ k_178) d_Mo_isOrdered_302 ?_
      refine lv_iconst (v := 3) hx hb d_Mo_isOrdered_305 (by decide) ?_
      obtain ⟨x60, e_x60, hf⟩ := fh_b hf
      refine fh_iald S hE.1 hI 0 rfl e_x60 d_Mo_isOrdered_306 ?_
      refine lv_icmp_ge (tgt := 359) hx hb d_Mo_isOrdered_307 (by decide) (fun c_307 => ?_) (fun c_307 => ?_)
      · replace hf := fh_t c_307 hf
        exact B359 a1 h0 _ _ _ (lv_sub hl [0, 1] rfl) hI hf
      · replace hf := fh_f c_307 hf
        refine fh_aload_n S d_Mo_isOrdered_310 rfl (lv_at hl 0 rfl) ?_
        obtain ⟨x61, e_x61, hf⟩ := fh_b hf
        refine fh_geta S hE.1 hI e_x61 (hc := rfl) (hin := in_6) (by decide) (hts _ k_178) d_Mo_isOrdered_311 ?_
        refine lv_iconst (v := 0) hx hb d_Mo_isOrdered_314 (by decide) ?_
        obtain ⟨x62, e_x62, hf⟩ := fh_b hf
        refine fh_iald S hE.1 hI 0 rfl e_x62 d_Mo_isOrdered_315 ?_
        refine fh_aload_n S d_Mo_isOrdered_316 rfl (lv_at hl 0 rfl) ?_
        obtain ⟨x63, e_x63, hf⟩ := fh_b hf
        refine fh_geta S hE.1 hI e_x63 (hc := rfl) (hin := in_6) (by decide) (hts _ k_178) d_Mo_isOrdered_317 ?_
        refine lv_iconst (v := 2) hx hb d_Mo_isOrdered_320 (by decide) ?_
        obtain ⟨x64, e_x64, hf⟩ := fh_b hf
        refine fh_iald S hE.1 hI 0 rfl e_x64 d_Mo_isOrdered_321 ?_
        refine lv_icmp_lt (tgt := 355) hx hb d_Mo_isOrdered_322 (by decide) (fun c_322 => ?_) (fun c_322 => ?_)
        · replace hf := fh_t c_322 hf
          exact B355 a1 h0 _ _ _ (lv_sub hl [0, 1] rfl) hI hf
        · replace hf := fh_f c_322 hf
          refine fh_aload_n S d_Mo_isOrdered_325 rfl (lv_at hl 0 rfl) ?_
          obtain ⟨x65, e_x65, hf⟩ := fh_b hf
          refine fh_geta S hE.1 hI e_x65 (hc := rfl) (hin := in_6) (by decide) (hts _ k_178) d_Mo_isOrdered_326 ?_
          refine lv_iconst (v := 0) hx hb d_Mo_isOrdered_329 (by decide) ?_
          obtain ⟨x66, e_x66, hf⟩ := fh_b hf
          refine fh_iald S hE.1 hI 0 rfl e_x66 d_Mo_isOrdered_330 ?_
          refine fh_aload_n S d_Mo_isOrdered_331 rfl (lv_at hl 0 rfl) ?_
          obtain ⟨x67, e_x67, hf⟩ := fh_b hf
          refine fh_geta S hE.1 hI e_x67 (hc := rfl) (hin := in_6) (by decide) (hts _ k_178) d_Mo_isOrdered_332 ?_
          refine lv_iconst (v := 2) hx hb d_Mo_isOrdered_335 (by decide) ?_
          obtain ⟨x68, e_x68, hf⟩ := fh_b hf
          refine fh_iald S hE.1 hI 0 rfl e_x68 d_Mo_isOrdered_336 ?_
          refine lv_icmp_ne (tgt := 359) hx hb d_Mo_isOrdered_337 (by decide) (fun c_337 => ?_) (fun c_337 => ?_)
          · replace hf := fh_f c_337 hf
            exact B359 a1 h0 _ _ _ (lv_sub hl [0, 1] rfl) hI hf
          · replace hf := fh_t c_337 hf
            refine fh_aload_n S d_Mo_isOrdered_340 rfl (lv_at hl 0 rfl) ?_
            obtain ⟨x69, e_x69, hf⟩ := fh_b hf
            refine fh_geta S hE.1 hI e_x69 (hc := rfl) (hin := in_6) (by decide) (hts _ k_178) d_Mo_isOrdered_341 ?_
            refine lv_iconst (v := 1) hx hb d_Mo_isOrdered_344 (by decide) ?_
            obtain ⟨x70, e_x70, hf⟩ := fh_b hf
            refine fh_iald S hE.1 hI 0 rfl e_x70 d_Mo_isOrdered_345 ?_
            refine fh_aload_n S d_Mo_isOrdered_346 rfl (lv_at hl 0 rfl) ?_
            obtain ⟨x71, e_x71, hf⟩ := fh_b hf
            refine fh_geta S hE.1 hI e_x71 (hc := rfl) (hin := in_6) (by decide) (hts _ k_178) d_Mo_isOrdered_347 ?_
            refine lv_iconst (v := 3) hx hb d_Mo_isOrdered_350 (by decide) ?_
            obtain ⟨x72, e_x72, hf⟩ := fh_b hf
            refine fh_iald S hE.1 hI 0 rfl e_x72 d_Mo_isOrdered_351 ?_
            refine lv_icmp_ge (tgt := 359) hx hb d_Mo_isOrdered_352 (by decide) (fun c_352 => ?_) (fun c_352 => ?_)
            · replace hf := fh_t c_352 hf
              exact B359 a1 h0 _ _ _ (lv_sub hl [0, 1] rfl) hI hf
            · replace hf := fh_f c_352 hf
              exact B355 a1 h0 _ _ _ (lv_sub hl [0, 1] rfl) hI hf
  replace hf := fh_f c_1_3 hf
  by_cases c_1_4 : a1 = 4
  · replace hf := fh_t c_1_4 hf
    refine lv_tableIn (tgt := 280) hx hb d_Mo_isOrdered_1 (by rw [c_1_4]; decide) (by rw [c_1_4]; decide) (off := 279) (by rw [c_1_4]; decide) (by decide) ?_
    refine fh_aload_n S d_Mo_isOrdered_280 rfl (lv_at hl 0 rfl) ?_
    obtain ⟨x73, e_x73, hf⟩ := fh_b hf
    refine fh_geta S hE.1 hI e_x73 (hc := rfl) (hin := in_6) (by decide) (hts _ k_178) d_Mo_isOrdered_281 ?_
    refine lv_iconst (v := 0) hx hb d_Mo_isOrdered_284 (by decide) ?_
    obtain ⟨x74, e_x74, hf⟩ := fh_b hf
    refine fh_iald S hE.1 hI 0 rfl e_x74 d_Mo_isOrdered_285 ?_
    refine fh_aload_n S d_Mo_isOrdered_286 rfl (lv_at hl 0 rfl) ?_
    obtain ⟨x75, e_x75, hf⟩ := fh_b hf
    refine fh_geta S hE.1 hI e_x75 (hc := rfl) (hin := in_6) (by decide) (hts _ k_178) d_Mo_isOrdered_287 ?_
    refine lv_iconst (v := 1) hx hb d_Mo_isOrdered_290 (by decide) ?_
    obtain ⟨x76, e_x76, hf⟩ := fh_b hf
    refine fh_iald S hE.1 hI 0 rfl e_x76 d_Mo_isOrdered_291 ?_
    refine lv_icmp_ge (tgt := 359) hx hb d_Mo_isOrdered_292 (by decide) (fun c_292 => ?_) (fun c_292 => ?_)
    · replace hf := fh_t c_292 hf
      exact B359 a1 h0 _ _ _ (lv_sub hl [0, 1] rfl) hI hf
    · replace hf := fh_f c_292 hf
      refine fh_aload_n S d_Mo_isOrdered_295 rfl (lv_at hl 0 rfl) ?_
      obtain ⟨x77, e_x77, hf⟩ := fh_b hf
      refine fh_geta S hE.1 hI e_x77 (hc := rfl) (hin := in_6) (by decide) (hts _ k_178) d_Mo_isOrdered_296 ?_
      refine lv_iconst (v := 2) hx hb d_Mo_isOrdered_299 (by decide) ?_
      obtain ⟨x78, e_x78, hf⟩ := fh_b hf
      refine fh_iald S hE.1 hI 0 rfl e_x78 d_Mo_isOrdered_300 ?_
      refine fh_aload_n S d_Mo_isOrdered_301 rfl (lv_at hl 0 rfl) ?_
      obtain ⟨x79, e_x79, hf⟩ := fh_b hf
      refine fh_geta S hE.1 hI e_x79 (hc := rfl) (hin := in_6) (by decide) (hts _ k_178) d_Mo_isOrdered_302 ?_
      refine lv_iconst (v := 3) hx hb d_Mo_isOrdered_305 (by decide) ?_
      obtain ⟨x80, e_x80, hf⟩ := fh_b hf
      refine fh_iald S hE.1 hI 0 rfl e_x80 d_Mo_isOrdered_306 ?_
      refine lv_icmp_ge (tgt := 359) hx hb d_Mo_isOrdered_307 (by decide) (fun c_307 => ?_) (fun c_307 => ?_)
      · replace hf := fh_t c_307 hf
        exact B359 a1 h0 _ _ _ (lv_sub hl [0, 1] rfl) hI hf
      · replace hf := fh_f c_307 hf
        refine fh_aload_n S d_Mo_isOrdered_310 rfl (lv_at hl 0 rfl) ?_
        obtain ⟨x81, e_x81, hf⟩ := fh_b hf
        refine fh_geta S hE.1 hI e_x81 (hc := rfl) (hin := in_6) (by decide) (hts _ k_178) d_Mo_isOrdered_311 ?_
        refine lv_iconst (v := 0) hx hb d_Mo_isOrdered_314 (by decide) ?_
        obtain ⟨x82, e_x82, hf⟩ := fh_b hf
        refine fh_iald S hE.1 hI 0 rfl e_x82 d_Mo_isOrdered_315 ?_
        refine fh_aload_n S d_Mo_isOrdered_316 rfl (lv_at hl 0 rfl) ?_
        obtain ⟨x83, e_x83, hf⟩ := fh_b hf
        refine fh_geta S hE.1 hI e_x83 (hc := rfl) (hin := in_6) (by decide) (hts _ k_178) d_Mo_isOrdered_317 ?_
        refine lv_iconst (v := 2) hx hb d_Mo_isOrdered_320 (by decide) ?_
        obtain ⟨x84, e_x84, hf⟩ := fh_b hf
        refine fh_iald S hE.1 hI 0 rfl e_x84 d_Mo_isOrdered_321 ?_
        refine lv_icmp_lt (tgt := 355) hx hb d_Mo_isOrdered_322 (by decide) (fun c_322 => ?_) (fun c_322 => ?_)
        · replace hf := fh_t c_322 hf
          exact B355 a1 h0 _ _ _ (lv_sub hl [0, 1] rfl) hI hf
        · replace hf := fh_f c_322 hf
          refine fh_aload_n S d_Mo_isOrdered_325 rfl (lv_at hl 0 rfl) ?_
          obtain ⟨x85, e_x85, hf⟩ := fh_b hf
          refine fh_geta S hE.1 hI e_x85 (hc := rfl) (hin := in_6) (by decide) (hts _ k_178) d_Mo_isOrdered_326 ?_
          refine lv_iconst (v := 0) hx hb d_Mo_isOrdered_329 (by decide) ?_
          obtain ⟨x86, e_x86, hf⟩ := fh_b hf
          refine fh_iald S hE.1 hI 0 rfl e_x86 d_Mo_isOrdered_330 ?_
          refine fh_aload_n S d_Mo_isOrdered_331 rfl (lv_at hl 0 rfl) ?_
          obtain ⟨x87, e_x87, hf⟩ := fh_b hf
          refine fh_geta S hE.1 hI e_x87 (hc := rfl) (hin := in_6) (by decide) (hts _ k_178) d_Mo_isOrdered_332 ?_
          refine lv_iconst (v := 2) hx hb d_Mo_isOrdered_335 (by decide) ?_
          obtain ⟨x88, e_x88, hf⟩ := fh_b hf
          refine fh_iald S hE.1 hI 0 rfl e_x88 d_Mo_isOrdered_336 ?_
          refine lv_icmp_ne (tgt := 359) hx hb d_Mo_isOrdered_337 (by decide) (fun c_337 => ?_) (fun c_337 => ?_)
          · replace hf := fh_f c_337 hf
            exact B359 a1 h0 _ _ _ (lv_sub hl [0, 1] rfl) hI hf
          · replace hf := fh_t c_337 hf
            refine fh_aload_n S d_Mo_isOrdered_340 rfl (lv_at hl 0 rfl) ?_
            obtain ⟨x89, e_x89, hf⟩ := fh_b hf
            refine fh_geta S hE.1 hI e_x89 (hc := rfl) (hin := in_6) (by decide) (hts _ k_178) d_Mo_isOrdered_341 ?_
            refine lv_iconst (v := 1) hx hb d_Mo_isOrdered_344 (by decide) ?_
            obtain ⟨x90, e_x90, hf⟩ := fh_b hf
            refine fh_iald S hE.1 hI 0 rfl e_x90 d_Mo_isOrdered_345 ?_
            refine fh_aload_n S d_Mo_isOrdered_346 rfl (lv_at hl 0 rfl) ?_
            obtain ⟨x91, e_x91, hf⟩ := fh_b hf
            refine fh_geta S hE.1 hI e_x91 (hc := rfl) (hin := in_6) (by decide) (hts _ k_178) d_Mo_isOrdered_347 ?_
            refine lv_iconst (v := 3) hx hb d_Mo_isOrdered_350 (by decide) ?_
            obtain ⟨x92, e_x92, hf⟩ := fh_b hf
            refine fh_iald S hE.1 hI 0 rfl e_x92 d_Mo_isOrdered_351 ?_
            refine lv_icmp_ge (tgt := 359) hx hb d_Mo_isOrdered_352 (by decide) (fun c_352 => ?_) (fun c_352 => ?_)
            · replace hf := fh_t c_352 hf
              exact B359 a1 h0 _ _ _ (lv_sub hl [0, 1] rfl) hI hf
            · replace hf := fh_f c_352 hf
              exact B355 a1 h0 _ _ _ (lv_sub hl [0, 1] rfl) hI hf
  replace hf := fh_f c_1_4 hf
  by_cases c_1_5 : a1 = 5
  · replace hf := fh_t c_1_5 hf
    refine lv_tableIn (tgt := 105) hx hb d_Mo_isOrdered_1 (by rw [c_1_5]; decide) (by rw [c_1_5]; decide) (off := 104) (by rw [c_1_5]; decide) (by decide) ?_
    refine fh_aload_n S d_Mo_isOrdered_105 rfl (lv_at hl 0 rfl) ?_
    obtain ⟨x93, e_x93, hf⟩ := fh_b hf
    refine fh_geta S hE.1 hI e_x93 (hc := rfl) (hin := in_6) (by decide) (hts _ k_178) d_Mo_isOrdered_106 ?_
    refine lv_iconst (v := 0) hx hb d_Mo_isOrdered_109 (by decide) ?_
    obtain ⟨x94, e_x94, hf⟩ := fh_b hf
    refine fh_iald S hE.1 hI 0 rfl e_x94 d_Mo_isOrdered_110 ?_
    refine fh_aload_n S d_Mo_isOrdered_111 rfl (lv_at hl 0 rfl) ?_
    obtain ⟨x95, e_x95, hf⟩ := fh_b hf
    refine fh_geta S hE.1 hI e_x95 (hc := rfl) (hin := in_6) (by decide) (hts _ k_178) d_Mo_isOrdered_112 ?_
    refine lv_iconst (v := 1) hx hb d_Mo_isOrdered_115 (by decide) ?_
    obtain ⟨x96, e_x96, hf⟩ := fh_b hf
    refine fh_iald S hE.1 hI 0 rfl e_x96 d_Mo_isOrdered_116 ?_
    refine lv_icmp_ge (tgt := 154) hx hb d_Mo_isOrdered_117 (by decide) (fun c_117 => ?_) (fun c_117 => ?_)
    · replace hf := fh_t c_117 hf
      refine lv_iconst (v := 0) hx hb d_Mo_isOrdered_154 (by decide) ?_
      obtain rfl := Option.some.inj hf
      exact fh_iret S hr hk (fh_nb (Or.inl rfl)) hAe hI d_Mo_isOrdered_155
    · replace hf := fh_f c_117 hf
      refine fh_aload_n S d_Mo_isOrdered_120 rfl (lv_at hl 0 rfl) ?_
      obtain ⟨x97, e_x97, hf⟩ := fh_b hf
      refine fh_geta S hE.1 hI e_x97 (hc := rfl) (hin := in_6) (by decide) (hts _ k_178) d_Mo_isOrdered_121 ?_
      refine lv_iconst (v := 1) hx hb d_Mo_isOrdered_124 (by decide) ?_
      obtain ⟨x98, e_x98, hf⟩ := fh_b hf
      refine fh_iald S hE.1 hI 0 rfl e_x98 d_Mo_isOrdered_125 ?_
      refine fh_aload_n S d_Mo_isOrdered_126 rfl (lv_at hl 0 rfl) ?_
      obtain ⟨x99, e_x99, hf⟩ := fh_b hf
      refine fh_geta S hE.1 hI e_x99 (hc := rfl) (hin := in_6) (by decide) (hts _ k_178) d_Mo_isOrdered_127 ?_
      refine lv_iconst (v := 2) hx hb d_Mo_isOrdered_130 (by decide) ?_
      obtain ⟨x100, e_x100, hf⟩ := fh_b hf
      refine fh_iald S hE.1 hI 0 rfl e_x100 d_Mo_isOrdered_131 ?_
      refine lv_icmp_ge (tgt := 154) hx hb d_Mo_isOrdered_132 (by decide) (fun c_132 => ?_) (fun c_132 => ?_)
      · replace hf := fh_t c_132 hf
        refine lv_iconst (v := 0) hx hb d_Mo_isOrdered_154 (by decide) ?_
        obtain rfl := Option.some.inj hf
        exact fh_iret S hr hk (fh_nb (Or.inl rfl)) hAe hI d_Mo_isOrdered_155
      · replace hf := fh_f c_132 hf
        refine fh_aload_n S d_Mo_isOrdered_135 rfl (lv_at hl 0 rfl) ?_
        obtain ⟨x101, e_x101, hf⟩ := fh_b hf
        refine fh_geta S hE.1 hI e_x101 (hc := rfl) (hin := in_6) (by decide) (hts _ k_178) d_Mo_isOrdered_136 ?_
        refine lv_iconst (v := 2) hx hb d_Mo_isOrdered_139 (by decide) ?_
        obtain ⟨x102, e_x102, hf⟩ := fh_b hf
        refine fh_iald S hE.1 hI 0 rfl e_x102 d_Mo_isOrdered_140 ?_
        refine fh_aload_n S d_Mo_isOrdered_141 rfl (lv_at hl 0 rfl) ?_
        obtain ⟨x103, e_x103, hf⟩ := fh_b hf
        refine fh_geta S hE.1 hI e_x103 (hc := rfl) (hin := in_6) (by decide) (hts _ k_178) d_Mo_isOrdered_142 ?_
        refine lv_iconst (v := 3) hx hb d_Mo_isOrdered_145 (by decide) ?_
        obtain ⟨x104, e_x104, hf⟩ := fh_b hf
        refine fh_iald S hE.1 hI 0 rfl e_x104 d_Mo_isOrdered_146 ?_
        refine lv_icmp_ge (tgt := 154) hx hb d_Mo_isOrdered_147 (by decide) (fun c_147 => ?_) (fun c_147 => ?_)
        · replace hf := fh_t c_147 hf
          refine lv_iconst (v := 0) hx hb d_Mo_isOrdered_154 (by decide) ?_
          obtain rfl := Option.some.inj hf
          exact fh_iret S hr hk (fh_nb (Or.inl rfl)) hAe hI d_Mo_isOrdered_155
        · replace hf := fh_f c_147 hf
          refine lv_iconst (v := 1) hx hb d_Mo_isOrdered_150 (by decide) ?_
          refine lv_goto (tgt := 155) hx hb d_Mo_isOrdered_151 (by decide) ?_
          obtain rfl := Option.some.inj hf
          exact fh_iret S hr hk (fh_nb (Or.inr rfl)) hAe hI d_Mo_isOrdered_155
  replace hf := fh_f c_1_5 hf
  by_cases c_1_6 : a1 = 6
  · replace hf := fh_t c_1_6 hf
    refine lv_tableIn (tgt := 156) hx hb d_Mo_isOrdered_1 (by rw [c_1_6]; decide) (by rw [c_1_6]; decide) (off := 155) (by rw [c_1_6]; decide) (by decide) ?_
    refine fh_aload_n S d_Mo_isOrdered_156 rfl (lv_at hl 0 rfl) ?_
    obtain ⟨x105, e_x105, hf⟩ := fh_b hf
    refine fh_geta S hE.1 hI e_x105 (hc := rfl) (hin := in_6) (by decide) (hts _ k_178) d_Mo_isOrdered_157 ?_
    refine lv_iconst (v := 1) hx hb d_Mo_isOrdered_160 (by decide) ?_
    obtain ⟨x106, e_x106, hf⟩ := fh_b hf
    refine fh_iald S hE.1 hI 0 rfl e_x106 d_Mo_isOrdered_161 ?_
    refine fh_aload_n S d_Mo_isOrdered_162 rfl (lv_at hl 0 rfl) ?_
    obtain ⟨x107, e_x107, hf⟩ := fh_b hf
    refine fh_geta S hE.1 hI e_x107 (hc := rfl) (hin := in_6) (by decide) (hts _ k_178) d_Mo_isOrdered_163 ?_
    refine lv_iconst (v := 2) hx hb d_Mo_isOrdered_166 (by decide) ?_
    obtain ⟨x108, e_x108, hf⟩ := fh_b hf
    refine fh_iald S hE.1 hI 0 rfl e_x108 d_Mo_isOrdered_167 ?_
    refine lv_icmp_ge (tgt := 205) hx hb d_Mo_isOrdered_168 (by decide) (fun c_168 => ?_) (fun c_168 => ?_)
    · replace hf := fh_t c_168 hf
      refine lv_iconst (v := 0) hx hb d_Mo_isOrdered_205 (by decide) ?_
      obtain rfl := Option.some.inj hf
      exact fh_iret S hr hk (fh_nb (Or.inl rfl)) hAe hI d_Mo_isOrdered_206
    · replace hf := fh_f c_168 hf
      refine fh_aload_n S d_Mo_isOrdered_171 rfl (lv_at hl 0 rfl) ?_
      obtain ⟨x109, e_x109, hf⟩ := fh_b hf
      refine fh_geta S hE.1 hI e_x109 (hc := rfl) (hin := in_6) (by decide) (hts _ k_178) d_Mo_isOrdered_172 ?_
      refine lv_iconst (v := 0) hx hb d_Mo_isOrdered_175 (by decide) ?_
      obtain ⟨x110, e_x110, hf⟩ := fh_b hf
      refine fh_iald S hE.1 hI 0 rfl e_x110 d_Mo_isOrdered_176 ?_
      refine fh_aload_n S d_Mo_isOrdered_177 rfl (lv_at hl 0 rfl) ?_
      obtain ⟨x111, e_x111, hf⟩ := fh_b hf
      refine fh_geta S hE.1 hI e_x111 (hc := rfl) (hin := in_6) (by decide) (hts _ k_178) d_Mo_isOrdered_178 ?_
      refine lv_iconst (v := 1) hx hb d_Mo_isOrdered_181 (by decide) ?_
      obtain ⟨x112, e_x112, hf⟩ := fh_b hf
      refine fh_iald S hE.1 hI 0 rfl e_x112 d_Mo_isOrdered_182 ?_
      refine lv_icmp_eq (tgt := 205) hx hb d_Mo_isOrdered_183 (by decide) (fun c_183 => ?_) (fun c_183 => ?_)
      · replace hf := fh_t c_183 hf
        refine lv_iconst (v := 0) hx hb d_Mo_isOrdered_205 (by decide) ?_
        obtain rfl := Option.some.inj hf
        exact fh_iret S hr hk (fh_nb (Or.inl rfl)) hAe hI d_Mo_isOrdered_206
      · replace hf := fh_f c_183 hf
        refine fh_aload_n S d_Mo_isOrdered_186 rfl (lv_at hl 0 rfl) ?_
        obtain ⟨x113, e_x113, hf⟩ := fh_b hf
        refine fh_geta S hE.1 hI e_x113 (hc := rfl) (hin := in_6) (by decide) (hts _ k_178) d_Mo_isOrdered_187 ?_
        refine lv_iconst (v := 0) hx hb d_Mo_isOrdered_190 (by decide) ?_
        obtain ⟨x114, e_x114, hf⟩ := fh_b hf
        refine fh_iald S hE.1 hI 0 rfl e_x114 d_Mo_isOrdered_191 ?_
        refine fh_aload_n S d_Mo_isOrdered_192 rfl (lv_at hl 0 rfl) ?_
        obtain ⟨x115, e_x115, hf⟩ := fh_b hf
        refine fh_geta S hE.1 hI e_x115 (hc := rfl) (hin := in_6) (by decide) (hts _ k_178) d_Mo_isOrdered_193 ?_
        refine lv_iconst (v := 2) hx hb d_Mo_isOrdered_196 (by decide) ?_
        obtain ⟨x116, e_x116, hf⟩ := fh_b hf
        refine fh_iald S hE.1 hI 0 rfl e_x116 d_Mo_isOrdered_197 ?_
        refine lv_icmp_eq (tgt := 205) hx hb d_Mo_isOrdered_198 (by decide) (fun c_198 => ?_) (fun c_198 => ?_)
        · replace hf := fh_t c_198 hf
          refine lv_iconst (v := 0) hx hb d_Mo_isOrdered_205 (by decide) ?_
          obtain rfl := Option.some.inj hf
          exact fh_iret S hr hk (fh_nb (Or.inl rfl)) hAe hI d_Mo_isOrdered_206
        · replace hf := fh_f c_198 hf
          refine lv_iconst (v := 1) hx hb d_Mo_isOrdered_201 (by decide) ?_
          refine lv_goto (tgt := 206) hx hb d_Mo_isOrdered_202 (by decide) ?_
          obtain rfl := Option.some.inj hf
          exact fh_iret S hr hk (fh_nb (Or.inr rfl)) hAe hI d_Mo_isOrdered_206
  replace hf := fh_f c_1_6 hf
  by_cases c_1_7 : a1 = 7
  · replace hf := fh_t c_1_7 hf
    refine lv_tableIn (tgt := 207) hx hb d_Mo_isOrdered_1 (by rw [c_1_7]; decide) (by rw [c_1_7]; decide) (off := 206) (by rw [c_1_7]; decide) (by decide) ?_
    refine fh_aload_n S d_Mo_isOrdered_207 rfl (lv_at hl 0 rfl) ?_
    obtain ⟨x117, e_x117, hf⟩ := fh_b hf
    refine fh_geta S hE.1 hI e_x117 (hc := rfl) (hin := in_6) (by decide) (hts _ k_178) d_Mo_isOrdered_208 ?_
    refine lv_iconst (v := 0) hx hb d_Mo_isOrdered_211 (by decide) ?_
    obtain ⟨x118, e_x118, hf⟩ := fh_b hf
    refine fh_iald S hE.1 hI 0 rfl e_x118 d_Mo_isOrdered_212 ?_
    refine fh_aload_n S d_Mo_isOrdered_213 rfl (lv_at hl 0 rfl) ?_
    obtain ⟨x119, e_x119, hf⟩ := fh_b hf
    refine fh_geta S hE.1 hI e_x119 (hc := rfl) (hin := in_6) (by decide) (hts _ k_178) d_Mo_isOrdered_214 ?_
    refine lv_iconst (v := 1) hx hb d_Mo_isOrdered_217 (by decide) ?_
    obtain ⟨x120, e_x120, hf⟩ := fh_b hf
    refine fh_iald S hE.1 hI 0 rfl e_x120 d_Mo_isOrdered_218 ?_
    refine lv_icmp_ge (tgt := 278) hx hb d_Mo_isOrdered_219 (by decide) (fun c_219 => ?_) (fun c_219 => ?_)
    · replace hf := fh_t c_219 hf
      refine lv_iconst (v := 0) hx hb d_Mo_isOrdered_278 (by decide) ?_
      obtain rfl := Option.some.inj hf
      exact fh_iret S hr hk (fh_nb (Or.inl rfl)) hAe hI d_Mo_isOrdered_279
    · replace hf := fh_f c_219 hf
      refine fh_aload_n S d_Mo_isOrdered_222 rfl (lv_at hl 0 rfl) ?_
      obtain ⟨x121, e_x121, hf⟩ := fh_b hf
      refine fh_geta S hE.1 hI e_x121 (hc := rfl) (hin := in_6) (by decide) (hts _ k_178) d_Mo_isOrdered_223 ?_
      refine lv_iconst (v := 1) hx hb d_Mo_isOrdered_226 (by decide) ?_
      obtain ⟨x122, e_x122, hf⟩ := fh_b hf
      refine fh_iald S hE.1 hI 0 rfl e_x122 d_Mo_isOrdered_227 ?_
      refine fh_aload_n S d_Mo_isOrdered_228 rfl (lv_at hl 0 rfl) ?_
      obtain ⟨x123, e_x123, hf⟩ := fh_b hf
      refine fh_geta S hE.1 hI e_x123 (hc := rfl) (hin := in_6) (by decide) (hts _ k_178) d_Mo_isOrdered_229 ?_
      refine lv_iconst (v := 2) hx hb d_Mo_isOrdered_232 (by decide) ?_
      obtain ⟨x124, e_x124, hf⟩ := fh_b hf
      refine fh_iald S hE.1 hI 0 rfl e_x124 d_Mo_isOrdered_233 ?_
      refine lv_icmp_ge (tgt := 278) hx hb d_Mo_isOrdered_234 (by decide) (fun c_234 => ?_) (fun c_234 => ?_)
      · replace hf := fh_t c_234 hf
        refine lv_iconst (v := 0) hx hb d_Mo_isOrdered_278 (by decide) ?_
        obtain rfl := Option.some.inj hf
        exact fh_iret S hr hk (fh_nb (Or.inl rfl)) hAe hI d_Mo_isOrdered_279
      · replace hf := fh_f c_234 hf
        refine fh_aload_n S d_Mo_isOrdered_237 rfl (lv_at hl 0 rfl) ?_
        obtain ⟨x125, e_x125, hf⟩ := fh_b hf
        refine fh_geta S hE.1 hI e_x125 (hc := rfl) (hin := in_6) (by decide) (hts _ k_178) d_Mo_isOrdered_238 ?_
        refine lv_iconst (v := 3) hx hb d_Mo_isOrdered_241 (by decide) ?_
        obtain ⟨x126, e_x126, hf⟩ := fh_b hf
        refine fh_iald S hE.1 hI 0 rfl e_x126 d_Mo_isOrdered_242 ?_
        refine fh_aload_n S d_Mo_isOrdered_243 rfl (lv_at hl 0 rfl) ?_
        obtain ⟨x127, e_x127, hf⟩ := fh_b hf
        refine fh_geta S hE.1 hI e_x127 (hc := rfl) (hin := in_6) (by decide) (hts _ k_178) d_Mo_isOrdered_244 ?_
        refine lv_iconst (v := 4) hx hb d_Mo_isOrdered_247 (by decide) ?_
        obtain ⟨x128, e_x128, hf⟩ := fh_b hf
        refine fh_iald S hE.1 hI 0 rfl e_x128 d_Mo_isOrdered_248 ?_
        refine lv_icmp_ge (tgt := 278) hx hb d_Mo_isOrdered_249 (by decide) (fun c_249 => ?_) (fun c_249 => ?_)
        · replace hf := fh_t c_249 hf
          refine lv_iconst (v := 0) hx hb d_Mo_isOrdered_278 (by decide) ?_
          obtain rfl := Option.some.inj hf
          exact fh_iret S hr hk (fh_nb (Or.inl rfl)) hAe hI d_Mo_isOrdered_279
        · replace hf := fh_f c_249 hf
          refine fh_aload_n S d_Mo_isOrdered_252 rfl (lv_at hl 0 rfl) ?_
          obtain ⟨x129, e_x129, hf⟩ := fh_b hf
          refine fh_geta S hE.1 hI e_x129 (hc := rfl) (hin := in_6) (by decide) (hts _ k_178) d_Mo_isOrdered_253 ?_
          refine lv_iconst (v := 4) hx hb d_Mo_isOrdered_256 (by decide) ?_
          obtain ⟨x130, e_x130, hf⟩ := fh_b hf
          refine fh_iald S hE.1 hI 0 rfl e_x130 d_Mo_isOrdered_257 ?_
          refine fh_aload_n S d_Mo_isOrdered_258 rfl (lv_at hl 0 rfl) ?_
          obtain ⟨x131, e_x131, hf⟩ := fh_b hf
          refine fh_geta S hE.1 hI e_x131 (hc := rfl) (hin := in_6) (by decide) (hts _ k_178) d_Mo_isOrdered_259 ?_
          refine lv_iconst (v := 5) hx hb d_Mo_isOrdered_262 (by decide) ?_
          obtain ⟨x132, e_x132, hf⟩ := fh_b hf
          refine fh_iald S hE.1 hI 0 rfl e_x132 d_Mo_isOrdered_263 ?_
          refine lv_icmp_ge (tgt := 278) hx hb d_Mo_isOrdered_264 (by decide) (fun c_264 => ?_) (fun c_264 => ?_)
          · replace hf := fh_t c_264 hf
            refine lv_iconst (v := 0) hx hb d_Mo_isOrdered_278 (by decide) ?_
            obtain rfl := Option.some.inj hf
            exact fh_iret S hr hk (fh_nb (Or.inl rfl)) hAe hI d_Mo_isOrdered_279
          · replace hf := fh_f c_264 hf
            refine fh_aload_n S d_Mo_isOrdered_267 rfl (lv_at hl 0 rfl) ?_
            obtain ⟨o133, e_o133, hf⟩ := fh_b hf
            obtain ⟨r134, e_r134, hf⟩ := fh_b hf
            refine fh_callV (As := []) (rest := []) S fT_good hE hI e_o133 rfl (c_Mo_isBefore e_r134) fy_Mo_isBefore fst_Mo_isBefore k_191 ⟨rfl, rfl⟩ ⟨Nat.le_of_ble_eq_true rfl, Nat.le_of_ble_eq_true rfl⟩ ⟨Nat.zero_le _, Nat.zero_le _⟩ rfl hl.1 rfl (Nat.le_of_ble_eq_true rfl) d_Mo_isOrdered_268 (fun H locs hI => ?_)
            refine lv_if_eq (tgt := 278) hx hb d_Mo_isOrdered_271 (by decide) (fun c_271 => ?_) (fun c_271 => ?_)
            · replace hf := fh_t c_271 hf
              refine lv_iconst (v := 0) hx hb d_Mo_isOrdered_278 (by decide) ?_
              obtain rfl := Option.some.inj hf
              exact fh_iret S hr hk (fh_nb (Or.inl rfl)) hAe hI d_Mo_isOrdered_279
            · replace hf := fh_f c_271 hf
              refine lv_iconst (v := 1) hx hb d_Mo_isOrdered_274 (by decide) ?_
              refine lv_goto (tgt := 279) hx hb d_Mo_isOrdered_275 (by decide) ?_
              obtain rfl := Option.some.inj hf
              exact fh_iret S hr hk (fh_nb (Or.inr rfl)) hAe hI d_Mo_isOrdered_279
  replace hf := fh_f c_1_7 hf
  have c_1 : a1.toInt < 0 ∨ 7 < a1.toInt := by
    have q0 : a1.toInt ≠ 0 := fun q => c_1_0 (Int32.toInt_inj.mp (q.trans (by decide)))
    have q1 : a1.toInt ≠ 1 := fun q => c_1_1 (Int32.toInt_inj.mp (q.trans (by decide)))
    have q2 : a1.toInt ≠ 2 := fun q => c_1_2 (Int32.toInt_inj.mp (q.trans (by decide)))
    have q3 : a1.toInt ≠ 3 := fun q => c_1_3 (Int32.toInt_inj.mp (q.trans (by decide)))
    have q4 : a1.toInt ≠ 4 := fun q => c_1_4 (Int32.toInt_inj.mp (q.trans (by decide)))
    have q5 : a1.toInt ≠ 5 := fun q => c_1_5 (Int32.toInt_inj.mp (q.trans (by decide)))
    have q6 : a1.toInt ≠ 6 := fun q => c_1_6 (Int32.toInt_inj.mp (q.trans (by decide)))
    have q7 : a1.toInt ≠ 7 := fun q => c_1_7 (Int32.toInt_inj.mp (q.trans (by decide)))
    omega
  refine lv_tableOut (tgt := 280) hx hb d_Mo_isOrdered_1 c_1 (by decide) ?_
  refine fh_aload_n S d_Mo_isOrdered_280 rfl (lv_at hl 0 rfl) ?_
  obtain ⟨x1, e_x1, hf⟩ := fh_b hf
  refine fh_geta S hE.1 hI e_x1 (hc := rfl) (hin := in_6) (by decide) (hts _ k_178) d_Mo_isOrdered_281 ?_
  refine lv_iconst (v := 0) hx hb d_Mo_isOrdered_284 (by decide) ?_
  obtain ⟨x2, e_x2, hf⟩ := fh_b hf
  refine fh_iald S hE.1 hI 0 rfl e_x2 d_Mo_isOrdered_285 ?_
  refine fh_aload_n S d_Mo_isOrdered_286 rfl (lv_at hl 0 rfl) ?_
  obtain ⟨x3, e_x3, hf⟩ := fh_b hf
  refine fh_geta S hE.1 hI e_x3 (hc := rfl) (hin := in_6) (by decide) (hts _ k_178) d_Mo_isOrdered_287 ?_
  refine lv_iconst (v := 1) hx hb d_Mo_isOrdered_290 (by decide) ?_
  obtain ⟨x4, e_x4, hf⟩ := fh_b hf
  refine fh_iald S hE.1 hI 0 rfl e_x4 d_Mo_isOrdered_291 ?_
  refine lv_icmp_ge (tgt := 359) hx hb d_Mo_isOrdered_292 (by decide) (fun c_292 => ?_) (fun c_292 => ?_)
  · replace hf := fh_t c_292 hf
    exact B359 a1 h0 _ _ _ (lv_sub hl [0, 1] rfl) hI hf
  · replace hf := fh_f c_292 hf
    refine fh_aload_n S d_Mo_isOrdered_295 rfl (lv_at hl 0 rfl) ?_
    obtain ⟨x5, e_x5, hf⟩ := fh_b hf
    refine fh_geta S hE.1 hI e_x5 (hc := rfl) (hin := in_6) (by decide) (hts _ k_178) d_Mo_isOrdered_296 ?_
    refine lv_iconst (v := 2) hx hb d_Mo_isOrdered_299 (by decide) ?_
    obtain ⟨x6, e_x6, hf⟩ := fh_b hf
    refine fh_iald S hE.1 hI 0 rfl e_x6 d_Mo_isOrdered_300 ?_
    refine fh_aload_n S d_Mo_isOrdered_301 rfl (lv_at hl 0 rfl) ?_
    obtain ⟨x7, e_x7, hf⟩ := fh_b hf
    refine fh_geta S hE.1 hI e_x7 (hc := rfl) (hin := in_6) (by decide) (hts _ k_178) d_Mo_isOrdered_302 ?_
    refine lv_iconst (v := 3) hx hb d_Mo_isOrdered_305 (by decide) ?_
    obtain ⟨x8, e_x8, hf⟩ := fh_b hf
    refine fh_iald S hE.1 hI 0 rfl e_x8 d_Mo_isOrdered_306 ?_
    refine lv_icmp_ge (tgt := 359) hx hb d_Mo_isOrdered_307 (by decide) (fun c_307 => ?_) (fun c_307 => ?_)
    · replace hf := fh_t c_307 hf
      exact B359 a1 h0 _ _ _ (lv_sub hl [0, 1] rfl) hI hf
    · replace hf := fh_f c_307 hf
      refine fh_aload_n S d_Mo_isOrdered_310 rfl (lv_at hl 0 rfl) ?_
      obtain ⟨x9, e_x9, hf⟩ := fh_b hf
      refine fh_geta S hE.1 hI e_x9 (hc := rfl) (hin := in_6) (by decide) (hts _ k_178) d_Mo_isOrdered_311 ?_
      refine lv_iconst (v := 0) hx hb d_Mo_isOrdered_314 (by decide) ?_
      obtain ⟨x10, e_x10, hf⟩ := fh_b hf
      refine fh_iald S hE.1 hI 0 rfl e_x10 d_Mo_isOrdered_315 ?_
      refine fh_aload_n S d_Mo_isOrdered_316 rfl (lv_at hl 0 rfl) ?_
      obtain ⟨x11, e_x11, hf⟩ := fh_b hf
      refine fh_geta S hE.1 hI e_x11 (hc := rfl) (hin := in_6) (by decide) (hts _ k_178) d_Mo_isOrdered_317 ?_
      refine lv_iconst (v := 2) hx hb d_Mo_isOrdered_320 (by decide) ?_
      obtain ⟨x12, e_x12, hf⟩ := fh_b hf
      refine fh_iald S hE.1 hI 0 rfl e_x12 d_Mo_isOrdered_321 ?_
      refine lv_icmp_lt (tgt := 355) hx hb d_Mo_isOrdered_322 (by decide) (fun c_322 => ?_) (fun c_322 => ?_)
      · replace hf := fh_t c_322 hf
        exact B355 a1 h0 _ _ _ (lv_sub hl [0, 1] rfl) hI hf
      · replace hf := fh_f c_322 hf
        refine fh_aload_n S d_Mo_isOrdered_325 rfl (lv_at hl 0 rfl) ?_
        obtain ⟨x13, e_x13, hf⟩ := fh_b hf
        refine fh_geta S hE.1 hI e_x13 (hc := rfl) (hin := in_6) (by decide) (hts _ k_178) d_Mo_isOrdered_326 ?_
        refine lv_iconst (v := 0) hx hb d_Mo_isOrdered_329 (by decide) ?_
        obtain ⟨x14, e_x14, hf⟩ := fh_b hf
        refine fh_iald S hE.1 hI 0 rfl e_x14 d_Mo_isOrdered_330 ?_
        refine fh_aload_n S d_Mo_isOrdered_331 rfl (lv_at hl 0 rfl) ?_
        obtain ⟨x15, e_x15, hf⟩ := fh_b hf
        refine fh_geta S hE.1 hI e_x15 (hc := rfl) (hin := in_6) (by decide) (hts _ k_178) d_Mo_isOrdered_332 ?_
        refine lv_iconst (v := 2) hx hb d_Mo_isOrdered_335 (by decide) ?_
        obtain ⟨x16, e_x16, hf⟩ := fh_b hf
        refine fh_iald S hE.1 hI 0 rfl e_x16 d_Mo_isOrdered_336 ?_
        refine lv_icmp_ne (tgt := 359) hx hb d_Mo_isOrdered_337 (by decide) (fun c_337 => ?_) (fun c_337 => ?_)
        · replace hf := fh_f c_337 hf
          exact B359 a1 h0 _ _ _ (lv_sub hl [0, 1] rfl) hI hf
        · replace hf := fh_t c_337 hf
          refine fh_aload_n S d_Mo_isOrdered_340 rfl (lv_at hl 0 rfl) ?_
          obtain ⟨x17, e_x17, hf⟩ := fh_b hf
          refine fh_geta S hE.1 hI e_x17 (hc := rfl) (hin := in_6) (by decide) (hts _ k_178) d_Mo_isOrdered_341 ?_
          refine lv_iconst (v := 1) hx hb d_Mo_isOrdered_344 (by decide) ?_
          obtain ⟨x18, e_x18, hf⟩ := fh_b hf
          refine fh_iald S hE.1 hI 0 rfl e_x18 d_Mo_isOrdered_345 ?_
          refine fh_aload_n S d_Mo_isOrdered_346 rfl (lv_at hl 0 rfl) ?_
          obtain ⟨x19, e_x19, hf⟩ := fh_b hf
          refine fh_geta S hE.1 hI e_x19 (hc := rfl) (hin := in_6) (by decide) (hts _ k_178) d_Mo_isOrdered_347 ?_
          refine lv_iconst (v := 3) hx hb d_Mo_isOrdered_350 (by decide) ?_
          obtain ⟨x20, e_x20, hf⟩ := fh_b hf
          refine fh_iald S hE.1 hI 0 rfl e_x20 d_Mo_isOrdered_351 ?_
          refine lv_icmp_ge (tgt := 359) hx hb d_Mo_isOrdered_352 (by decide) (fun c_352 => ?_) (fun c_352 => ?_)
          · replace hf := fh_t c_352 hf
            exact B359 a1 h0 _ _ _ (lv_sub hl [0, 1] rfl) hI hf
          · replace hf := fh_f c_352 hf
            exact B355 a1 h0 _ _ _ (lv_sub hl [0, 1] rfl) hI hf
theorem d_Mo_size_0 : decode c0_Mo_size 0 = .ok (.iload_n 0, 1) := by decide +kernel
theorem d_Mo_size_1 : decode c0_Mo_size 1 = .ok (.tableswitch 54 0 7 #[47, 49, 54, 54, 54, 54, 49, 51], 47) := by decide +kernel
theorem d_Mo_size_48 : decode c0_Mo_size 48 = .ok (.iconst 2, 1) := by decide +kernel
theorem d_Mo_size_49 : decode c0_Mo_size 49 = .ok (.ireturn, 1) := by decide +kernel
theorem d_Mo_size_50 : decode c0_Mo_size 50 = .ok (.iconst 3, 1) := by decide +kernel
theorem d_Mo_size_51 : decode c0_Mo_size 51 = .ok (.ireturn, 1) := by decide +kernel
theorem d_Mo_size_52 : decode c0_Mo_size 52 = .ok (.bipush 6, 2) := by decide +kernel
theorem d_Mo_size_54 : decode c0_Mo_size 54 = .ok (.ireturn, 1) := by decide +kernel
theorem d_Mo_size_55 : decode c0_Mo_size 55 = .ok (.iconst 4, 1) := by decide +kernel
theorem d_Mo_size_56 : decode c0_Mo_size 56 = .ok (.ireturn, 1) := by decide +kernel
def f_Mo_size (K : Nat → ClassId) (N : Nat) (a0 : Int32) (h0 : fh_H) : Option (Int32 × fh_H) :=
  if a0 = 0 then (some (2, h0)) else (if a0 = 1 then (some (3, h0)) else (if a0 = 2 then (some (4, h0)) else (if a0 = 3 then (some (4, h0)) else (if a0 = 4 then (some (4, h0)) else (if a0 = 5 then (some (4, h0)) else (if a0 = 6 then (some (3, h0)) else (if a0 = 7 then (some (6, h0)) else (some (4, h0)))))))))
set_option maxHeartbeats 4000000 in
set_option maxRecDepth 100000 in
theorem c_Mo_size {l : Launch} {D : va_G} {K : Nat → ClassId} {t : Nat → Nat} {N : Nat} {a0 : Int32} {h0 : fh_H} {res : Int32 × fh_H} (hf : f_Mo_size K N a0 h0 = some res) : fC l D K t y_Mo_size c0_Mo_size 1 (some .int) rm_Mo_size [.int a0] h0 (some (.int res.1)) res.2 := by
  refine fh_body (by decide) (Nat.le_of_ble_eq_true rfl) ?_
  intro p e s m below meth c A ls S hr hk hnm hE hAe hI hl
  obtain ⟨hx, hb, hml, hown, hts⟩ := id S
  have hl : lv_has ls 1 [(0, .int a0)] := hl
  unfold f_Mo_size at hf
  refine lv_iload_n hx hb d_Mo_size_0 rfl (lv_at hl 0 rfl) ?_
  by_cases c_1_0 : a0 = 0
  · replace hf := fh_t c_1_0 hf
    refine lv_tableIn (tgt := 48) hx hb d_Mo_size_1 (by rw [c_1_0]; decide) (by rw [c_1_0]; decide) (off := 47) (by rw [c_1_0]; decide) (by decide) ?_
    refine lv_iconst (v := 2) hx hb d_Mo_size_48 (by decide) ?_
    obtain rfl := Option.some.inj hf
    exact fh_iret S hr hk rfl hAe hI d_Mo_size_49
  replace hf := fh_f c_1_0 hf
  by_cases c_1_1 : a0 = 1
  · replace hf := fh_t c_1_1 hf
    refine lv_tableIn (tgt := 50) hx hb d_Mo_size_1 (by rw [c_1_1]; decide) (by rw [c_1_1]; decide) (off := 49) (by rw [c_1_1]; decide) (by decide) ?_
    refine lv_iconst (v := 3) hx hb d_Mo_size_50 (by decide) ?_
    obtain rfl := Option.some.inj hf
    exact fh_iret S hr hk rfl hAe hI d_Mo_size_51
  replace hf := fh_f c_1_1 hf
  by_cases c_1_2 : a0 = 2
  · replace hf := fh_t c_1_2 hf
    refine lv_tableIn (tgt := 55) hx hb d_Mo_size_1 (by rw [c_1_2]; decide) (by rw [c_1_2]; decide) (off := 54) (by rw [c_1_2]; decide) (by decide) ?_
    refine lv_iconst (v := 4) hx hb d_Mo_size_55 (by decide) ?_
    obtain rfl := Option.some.inj hf
    exact fh_iret S hr hk rfl hAe hI d_Mo_size_56
  replace hf := fh_f c_1_2 hf
  by_cases c_1_3 : a0 = 3
  · replace hf := fh_t c_1_3 hf
    refine lv_tableIn (tgt := 55) hx hb d_Mo_size_1 (by rw [c_1_3]; decide) (by rw [c_1_3]; decide) (off := 54) (by rw [c_1_3]; decide) (by decide) ?_
    refine lv_iconst (v := 4) hx hb d_Mo_size_55 (by decide) ?_
    obtain rfl := Option.some.inj hf
    exact fh_iret S hr hk rfl hAe hI d_Mo_size_56
  replace hf := fh_f c_1_3 hf
  by_cases c_1_4 : a0 = 4
  · replace hf := fh_t c_1_4 hf
    refine lv_tableIn (tgt := 55) hx hb d_Mo_size_1 (by rw [c_1_4]; decide) (by rw [c_1_4]; decide) (off := 54) (by rw [c_1_4]; decide) (by decide) ?_
    refine lv_iconst (v := 4) hx hb d_Mo_size_55 (by decide) ?_
    obtain rfl := Option.some.inj hf
    exact fh_iret S hr hk rfl hAe hI d_Mo_size_56
  replace hf := fh_f c_1_4 hf
  by_cases c_1_5 : a0 = 5
  · replace hf := fh_t c_1_5 hf
    refine lv_tableIn (tgt := 55) hx hb d_Mo_size_1 (by rw [c_1_5]; decide) (by rw [c_1_5]; decide) (off := 54) (by rw [c_1_5]; decide) (by decide) ?_
    refine lv_iconst (v := 4) hx hb d_Mo_size_55 (by decide) ?_
    obtain rfl := Option.some.inj hf
    exact fh_iret S hr hk rfl hAe hI d_Mo_size_56
  replace hf := fh_f c_1_5 hf
  by_cases c_1_6 : a0 = 6
  · replace hf := fh_t c_1_6 hf
    refine lv_tableIn (tgt := 50) hx hb d_Mo_size_1 (by rw [c_1_6]; decide) (by rw [c_1_6]; decide) (off := 49) (by rw [c_1_6]; decide) (by decide) ?_
    refine lv_iconst (v := 3) hx hb d_Mo_size_50 (by decide) ?_
    obtain rfl := Option.some.inj hf
    exact fh_iret S hr hk rfl hAe hI d_Mo_size_51
  replace hf := fh_f c_1_6 hf
  by_cases c_1_7 : a0 = 7
  · replace hf := fh_t c_1_7 hf
    refine lv_tableIn (tgt := 52) hx hb d_Mo_size_1 (by rw [c_1_7]; decide) (by rw [c_1_7]; decide) (off := 51) (by rw [c_1_7]; decide) (by decide) ?_
    refine lv_bipush (v := 6) hx hb d_Mo_size_52 (by decide) ?_
    obtain rfl := Option.some.inj hf
    exact fh_iret S hr hk rfl hAe hI d_Mo_size_54
  replace hf := fh_f c_1_7 hf
  have c_1 : a0.toInt < 0 ∨ 7 < a0.toInt := by
    have q0 : a0.toInt ≠ 0 := fun q => c_1_0 (Int32.toInt_inj.mp (q.trans (by decide)))
    have q1 : a0.toInt ≠ 1 := fun q => c_1_1 (Int32.toInt_inj.mp (q.trans (by decide)))
    have q2 : a0.toInt ≠ 2 := fun q => c_1_2 (Int32.toInt_inj.mp (q.trans (by decide)))
    have q3 : a0.toInt ≠ 3 := fun q => c_1_3 (Int32.toInt_inj.mp (q.trans (by decide)))
    have q4 : a0.toInt ≠ 4 := fun q => c_1_4 (Int32.toInt_inj.mp (q.trans (by decide)))
    have q5 : a0.toInt ≠ 5 := fun q => c_1_5 (Int32.toInt_inj.mp (q.trans (by decide)))
    have q6 : a0.toInt ≠ 6 := fun q => c_1_6 (Int32.toInt_inj.mp (q.trans (by decide)))
    have q7 : a0.toInt ≠ 7 := fun q => c_1_7 (Int32.toInt_inj.mp (q.trans (by decide)))
    omega
  refine lv_tableOut (tgt := 55) hx hb d_Mo_size_1 c_1 (by decide) ?_
  refine lv_iconst (v := 4) hx hb d_Mo_size_55 (by decide) ?_
  obtain rfl := Option.some.inj hf
  exact fh_iret S hr hk rfl hAe hI d_Mo_size_56
