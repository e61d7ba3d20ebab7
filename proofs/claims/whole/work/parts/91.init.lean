/-! THE CONSTRUCTORS: wf_.. o h P: from the world h, with the object at o, the constructor comes to a world with P, wherever the new cells lie -/
def NWL2 : List Cond := NWL ++ [.methodLinkNest "FactFinder" 9 y_Pl_init "FactFinder", .methodLinkNest "FactFinder$Drawing" 24 y_Fi_init "FactFinder", .fieldLinkNest "FactFinder$Findings" 45 "FactFinder" "MOST_FACTS" "[I" "FactFinder"]
theorem nw_sub : ∀ w ∈ NWL, w ∈ NWL2 := fun w hw => List.mem_append_left _ hw
theorem kw_8 : Cond.arrayOver (.object "FactFinder$Figure") ∈ NWL2 := nw_sub _ kn_10
theorem kw_9 : Cond.arrayOver (.object "FactFinder$IntList") ∈ NWL2 := nw_sub _ kn_11
theorem kw_10 : Cond.methodLinkNest "FactFinder" 9 y_Pl_init "FactFinder" ∈ NWL2 := List.mem_append_right _ (List.mem_of_getElem? (i := 0) rfl)
theorem kw_11 : Cond.methodLinkNest "FactFinder$Drawing" 24 y_Fi_init "FactFinder" ∈ NWL2 := List.mem_append_right _ (List.mem_of_getElem? (i := 1) rfl)
theorem kw_12 : Cond.fieldLinkNest "FactFinder$Findings" 45 "FactFinder" "MOST_FACTS" "[I" "FactFinder" ∈ NWL2 := List.mem_append_right _ (List.mem_of_getElem? (i := 2) rfl)
abbrev fW (l : Launch) (D : va_G) (K : Nat → ClassId) (t : Nat → Nat) (y : MethodName) (c : ByteArray) (n : Nat) (rm : Room) (vs : List Value) (h : fh_H) (P : fh_H → Prop) (mc ms : Nat) : Prop := fh_CW l y (Cond.code y c n none :: fT) rm D classes (tysK K) (tbT t) NWL2 vs h P mc ms
theorem fy_Pl_init : fh_Y fT y_Pl_init c0_Pl_init 1 none 0 := ⟨k_695, k_220, by decide, by decide, by decide +kernel⟩
theorem fy_Fs_init : fh_Y fT y_Fs_init c0_Fs_init 2 none 0 := ⟨k_700, k_269, by decide, by decide, by decide +kernel⟩
theorem fy_Dr_init : fh_Y fT y_Dr_init c0_Dr_init 2 none 0 := ⟨k_705, k_216, by decide, by decide, by decide +kernel⟩
theorem fy_Fi_init : fh_Y fT y_Fi_init c0_Fi_init 1 none 0 := ⟨k_709, k_212, by decide, by decide, by decide +kernel⟩
theorem fy_IL_init : fh_Y fT y_IL_init c0_IL_init 2 none 1 := ⟨k_714, k_372, by decide, by decide, by decide +kernel⟩
theorem fy_FF_init : fh_Y fT y_FF_init c0_FF_init 1 none 0 := ⟨k_689, k_236, by decide, by decide, by decide +kernel⟩
theorem fy_Mo_init : fh_Y fT y_Mo_init c0_Mo_init 1 none 0 := ⟨k_738, k_445, by decide, by decide, by decide +kernel⟩
def rn_Pl : Room := { frames := 1, cells := 2, slots := 50, locals := 20 }
def rn_Fi : Room := { frames := 1, cells := 2, slots := 32, locals := 20 }
def rn_IL : Room := { frames := 1, cells := 1, slots := 7140, locals := 20 }
def rn_Dr : Room := { frames := 2, cells := 16, slots := 200, locals := 40 }
def rn_Fs : Room := { frames := 3, cells := 44, slots := 86054, locals := 61 }
def rn_FF : Room := { frames := 8, cells := 65, slots := 86321, locals := 190 }
def rn_Mo : Room := { frames := 7, cells := 9, slots := 1291, locals := 174 }
def zI (n : Nat) : vp_A := (n, .inl (fun _ => 0))
def zL (n : Nat) : vp_A := (n, .inr (.inl (fun _ => 0)))
def zR (n : Nat) : vp_A := (n, .inr (.inr (.inr (.inr (fun _ => none)))))
def z_Pl : va_E := .inr (1, [.null, .null, .int 0])
def z_Fs : va_E := .inr (2, [.null, .null, .null, .null, .null, .null, .null, .int 0, .int 0])
def z_Dr : va_E := .inr (3, [.null, .int 0, .int 0, .long 0, .long 0])
def z_Fi : va_E := .inr (4, [.null, .null, .int 0, .int 0, .long 0, .int 0, .int 0])
def z_IL : va_E := .inr (5, [.null, .int 0])
def z_FF : va_E := .inr (0, [.null, .null, .null, .int 0, .int 0])
def z_Mo : va_E := .inr (6, [.int 0, .null, .null, .int 0, .int 0, .null, .null, .null, .int 0, .long 0, .long 0, .long 0, .int 0, .null, .int 0, .int 0, .null, .int 0, .int 0, .null, .int 0, .null])
/-- two worlds of the same cells (an array's names count below its length alone) -/
def er (e e2 : va_E) : Prop := e2 = e ∨ ∃ (c : ClassId) (n : Nat) (f f2 : Nat → Option Nat), e = .inl (c, n, .inr (.inr (.inr (.inr f)))) ∧ e2 = .inl (c, n, .inr (.inr (.inr (.inr f2)))) ∧ ∀ j, j < n → f2 j = f j
def weq (h h2 : fh_H) : Prop := ∀ a, h2 a = h a ∨ ∃ e e2, h a = some e ∧ h2 a = some e2 ∧ er e e2
theorem vp_cg {c : ClassId} {n : Nat} {f f2 : Nat → Option Nat} (h : ∀ j, j < n → f2 j = f j) : vp_cell c (n, .inr (.inr (.inr (.inr f2)))) = vp_cell c (n, .inr (.inr (.inr (.inr f)))) := by
  show arrV c n (fun j => va_rf (f2 j)) = arrV c n (fun j => va_rf (f j))
  unfold arrV
  have e : (fun j : Fin n => va_rf (f2 j.val)) = (fun j : Fin n => va_rf (f j.val)) := funext fun j => by rw [h j.val j.isLt]
  rw [e]
theorem fh_weq {D : va_G} {cl : List vw_C} {A : Nat → Prop} {H0 H : Heap} {h h2 : fh_H} {locs : List Loc} (hI : fh_I D cl A H0 h H locs) (hw : weq h h2) : fh_I D cl A H0 h2 H locs := by
  refine ⟨fun a e ha => ?_, fun a e ha => ?_, hI.2.2⟩
  · rcases hw a with q | ⟨e1, e2, h1, h3, h4⟩
    · exact hI.1 a e (q.symm.trans ha)
    · obtain rfl := Option.some.inj (h3.symm.trans ha)
      have h5 := hI.1 a e1 h1
      rcases h4 with q | ⟨c, n, f, f2, q1, q2, q3⟩
      · rw [q]; exact h5
      · subst q1
        subst q2
        show H[a]? = some (vp_cell c (n, .inr (.inr (.inr (.inr f2)))))
        rw [vp_cg q3]
        exact h5
  · rcases hw a with q | ⟨e1, e2, h1, h3, h4⟩
    · exact hI.2.1 a e (q.symm.trans ha)
    · exact hI.2.1 a e1 h1
/-- a field is put -/
def wP (h : fh_H) (o ci k : Nat) (x : Value) (P : fh_H → Prop) : Prop := ∃ h1, fp_v h (some o) ci k x = some h1 ∧ P h1
/-- a cell is made -/
def wN (h : fh_H) (e : va_E) (P : Nat → fh_H → Prop) : Prop := ∀ q, h q = none → P q (fh_up h q e)
def wf_Pl (K : Nat → ClassId) (o : Nat) (h : fh_H) (P : fh_H → Prop) : Prop := wN h (.inl (K 0, zI 10)) fun q1 h => wP h o 1 0 (.ref q1) fun h => wN h (.inl (K 0, zI 40)) fun q2 h => wP h o 1 1 (.ref q2) P
def wf_Fi (K : Nat → ClassId) (o : Nat) (h : fh_H) (P : fh_H → Prop) : Prop := wN h (.inl (K 0, zI 16)) fun q1 h => wP h o 4 0 (.ref q1) fun h => wN h (.inl (K 0, zI 16)) fun q2 h => wP h o 4 1 (.ref q2) fun h => wP h o 4 3 (.int (-1)) P
def wf_IL (K : Nat → ClassId) (o n : Nat) (h : fh_H) (P : fh_H → Prop) : Prop := wN h (.inl (K 0, zI n)) fun q1 h => wP h o 5 0 (.ref q1) P
def wl_Dr (K : Nat → ClassId) (o : Nat) : Nat → Nat → fh_H → (fh_H → Prop) → Prop
  | 0, _, h, P => P h
  | m + 1, g, h, P => ∃ sh, fg_a h (some o) 3 0 = some sh ∧ wN h z_Fi fun q h => wf_Fi K q h fun h => ∃ h2, fs_a (K 3) 4 h sh (nI g) (some q) = some h2 ∧ wl_Dr K o m (g + 1) h2 P
def wf_Dr (K : Nat → ClassId) (o : Nat) (h : fh_H) (P : fh_H → Prop) : Prop := wN h (.inl (K 3, zR 5)) fun q1 h => wP h o 3 0 (.ref q1) fun h => wP h o 3 3 (.long 1) fun h => wP h o 3 4 (.long 1) fun h => wl_Dr K o 5 0 h P
def wl_Fs (K : Nat → ClassId) (o : Nat) : Nat → Nat → fh_H → (fh_H → Prop) → Prop
  | 0, _, h, P => P h
  | m + 1, g, h, P => ∃ sh, fg_a h (some o) 2 1 = some sh ∧ wN h z_IL fun q h => wf_IL K q (il_len g) h fun h => ∃ h2, fs_a (K 4) 5 h sh (nI g) (some q) = some h2 ∧ wl_Fs K o m (g + 1) h2 P
def wf_Fs (K : Nat → ClassId) (o : Nat) (h : fh_H) (P : fh_H → Prop) : Prop := wN h z_Dr fun q0 h => wf_Dr K q0 h fun h => wP h o 2 0 (.ref q0) fun h => wN h (.inl (K 4, zR 9)) fun q1 h => wP h o 2 1 (.ref q1) fun h => wN h z_IL fun q2 h => wf_IL K q2 45 h fun h => wP h o 2 2 (.ref q2) fun h => wN h z_IL fun q3 h => wf_IL K q3 120 h fun h => wP h o 2 3 (.ref q3) fun h => wN h (.inl (K 0, zI 16)) fun q4 h => wP h o 2 4 (.ref q4) fun h => wN h z_IL fun q5 h => wf_IL K q5 120 h fun h => wP h o 2 5 (.ref q5) fun h => wN h (.inl (K 1, zL 120)) fun q6 h => wP h o 2 6 (.ref q6) fun h => wl_Fs K o 9 0 h P
def wf_FF (K : Nat → ClassId) (N o : Nat) (h : fh_H) (P : fh_H → Prop) : Prop := wN h z_Pl fun q1 h => wf_Pl K q1 h fun h => wP h o 0 0 (.ref q1) fun h => wN h z_Fs fun q2 h => wf_Fs K q2 h fun h => wP h o 0 1 (.ref q2) fun h => wN h z_Dr fun q3 h => wf_Dr K q3 h fun h => wP h o 0 2 (.ref q3) fun h => wP h o 0 3 (.int 1) fun h => wP h o 0 4 (.int 1) fun h => ∃ h1, weq h h1 ∧ ∃ b, fg_o h1 (some o) 0 = some b ∧ ∃ h2, f_FF_drawAll K N b h1 = some h2 ∧ P h2
def wf_Mo (K : Nat → ClassId) (N o : Nat) (h : fh_H) (P : fh_H → Prop) : Prop := wN h (.inl (K 0, zI 10)) fun q1 h => wP h o 6 1 (.ref q1) fun h => wN h (.inl (K 0, zI 40)) fun q2 h => wP h o 6 2 (.ref q2) fun h => wP h o 6 3 (.int 1) fun h => wP h o 6 4 (.int 1) fun h => wN h (.inl (K 1, zL 50)) fun q3 h => wP h o 6 5 (.ref q3) fun h => wN h (.inl (K 1, zL 50)) fun q4 h => wP h o 6 6 (.ref q4) fun h => wN h (.inl (K 0, zI 5)) fun q5 h => wP h o 6 7 (.ref q5) fun h => wN h (.inl (K 0, zI 6)) fun q6 h => wP h o 6 13 (.ref q6) fun h => wN h (.inl (K 2, zI 100)) fun q7 h => wP h o 6 16 (.ref q7) fun h => wN h (.inl (K 0, zI 6)) fun q8 h => wP h o 6 19 (.ref q8) fun h => wN h (.inl (K 2, zI 1024)) fun q9 h => wP h o 6 21 (.ref q9) fun h => ∃ b, fg_o h (some o) 6 = some b ∧ ∃ h2, f_Mo_drawAll K N b h = some h2 ∧ P h2
theorem d_Pl_init_0 : decode c0_Pl_init 0 = .ok (.aload_n 0, 1) := by decide +kernel
theorem d_Pl_init_1 : decode c0_Pl_init 1 = .ok (.invokespecial 3, 3) := by decide +kernel
theorem d_Pl_init_4 : decode c0_Pl_init 4 = .ok (.aload_n 0, 1) := by decide +kernel
theorem d_Pl_init_5 : decode c0_Pl_init 5 = .ok (.bipush 10, 2) := by decide +kernel
theorem d_Pl_init_7 : decode c0_Pl_init 7 = .ok (.newarray .int, 2) := by decide +kernel
theorem d_Pl_init_9 : decode c0_Pl_init 9 = .ok (.putfield 9, 3) := by decide +kernel
theorem d_Pl_init_12 : decode c0_Pl_init 12 = .ok (.aload_n 0, 1) := by decide +kernel
theorem d_Pl_init_13 : decode c0_Pl_init 13 = .ok (.bipush 40, 2) := by decide +kernel
theorem d_Pl_init_15 : decode c0_Pl_init 15 = .ok (.newarray .int, 2) := by decide +kernel
theorem d_Pl_init_17 : decode c0_Pl_init 17 = .ok (.putfield 15, 3) := by decide +kernel
theorem d_Pl_init_20 : decode c0_Pl_init 20 = .ok (.return_, 1) := by decide +kernel
set_option maxHeartbeats 4000000 in
set_option maxRecDepth 100000 in
theorem c_Pl_init {l : Launch} {D : va_G} {K : Nat → ClassId} {t : Nat → Nat} {o : Nat} {h0 : fh_H} {P : fh_H → Prop} (hf : wf_Pl K o h0 P) : fW l D K t y_Pl_init c0_Pl_init 1 rn_Pl [.ref o] h0 P 2 50 := by
  refine fh_bodyW (by decide) (Nat.le_of_ble_eq_true rfl) ?_
  intro p e s m below meth c A ls S hr hk hnm hE hAe hI hl
  obtain ⟨hx, hb, hml, hown, hts⟩ := id S
  have hl : lv_has ls 1 [(0, va_rf (some o))] := hl
  unfold wf_Pl wN wP at hf
  refine fh_aload_n S d_Pl_init_0 rfl (lv_at hl 0 rfl) ?_
  refine fh_oinit S k_696 k_755 k_754 hl.1 d_Pl_init_1 (by decide) (by decide) ?_
  refine fh_aload_n S d_Pl_init_4 rfl (lv_at hl 0 rfl) ?_
  refine lv_bipush (v := 10) hx hb d_Pl_init_5 (by decide) ?_
  refine fh_newa S hE hI (atype := .int) (a0 := zI 10) 0 rfl k_681 rfl (fun _ => rfl) (by decide) (by decide) (by decide) (Nat.le_of_ble_eq_true rfl) (Nat.le_of_ble_eq_true rfl) d_Pl_init_7 (fun q1 H f_q1 hI => ?_)
  replace hf := hf q1 f_q1
  obtain ⟨h2, e_h2, hf⟩ := hf
  refine fh_putf S hE.1 hI e_h2 (hc := rfl) (hin := in_1) tok_1 nok_1 (by decide) (hts _ k_51) rfl hnm rfl rfl rfl d_Pl_init_9 (fun H locs hI => ?_)
  refine fh_aload_n S d_Pl_init_12 rfl (lv_at hl 0 rfl) ?_
  refine lv_bipush (v := 40) hx hb d_Pl_init_13 (by decide) ?_
  refine fh_newa S hE hI (atype := .int) (a0 := zI 40) 0 rfl k_681 rfl (fun _ => rfl) (by decide) (by decide) (by decide) (Nat.le_of_ble_eq_true rfl) (Nat.le_of_ble_eq_true rfl) d_Pl_init_15 (fun q3 H f_q3 hI => ?_)
  replace hf := hf q3 f_q3
  obtain ⟨h4, e_h4, hf⟩ := hf
  refine fh_putf S hE.1 hI e_h4 (hc := rfl) (hin := in_1) tok_1 nok_1 (by decide) (hts _ k_6) rfl hnm rfl rfl rfl d_Pl_init_17 (fun H locs hI => ?_)
  exact fh_vretW S hr hk hAe hI hf d_Pl_init_20
theorem d_Fi_init_0 : decode c0_Fi_init 0 = .ok (.aload_n 0, 1) := by decide +kernel
theorem d_Fi_init_1 : decode c0_Fi_init 1 = .ok (.invokespecial 3, 3) := by decide +kernel
theorem d_Fi_init_4 : decode c0_Fi_init 4 = .ok (.aload_n 0, 1) := by decide +kernel
theorem d_Fi_init_5 : decode c0_Fi_init 5 = .ok (.bipush 16, 2) := by decide +kernel
theorem d_Fi_init_7 : decode c0_Fi_init 7 = .ok (.newarray .int, 2) := by decide +kernel
theorem d_Fi_init_9 : decode c0_Fi_init 9 = .ok (.putfield 9, 3) := by decide +kernel
theorem d_Fi_init_12 : decode c0_Fi_init 12 = .ok (.aload_n 0, 1) := by decide +kernel
theorem d_Fi_init_13 : decode c0_Fi_init 13 = .ok (.bipush 16, 2) := by decide +kernel
theorem d_Fi_init_15 : decode c0_Fi_init 15 = .ok (.newarray .int, 2) := by decide +kernel
theorem d_Fi_init_17 : decode c0_Fi_init 17 = .ok (.putfield 15, 3) := by decide +kernel
theorem d_Fi_init_20 : decode c0_Fi_init 20 = .ok (.aload_n 0, 1) := by decide +kernel
theorem d_Fi_init_21 : decode c0_Fi_init 21 = .ok (.iconst (-1), 1) := by decide +kernel
theorem d_Fi_init_22 : decode c0_Fi_init 22 = .ok (.putfield 18, 3) := by decide +kernel
theorem d_Fi_init_25 : decode c0_Fi_init 25 = .ok (.return_, 1) := by decide +kernel
set_option maxHeartbeats 4000000 in
set_option maxRecDepth 100000 in
theorem c_Fi_init {l : Launch} {D : va_G} {K : Nat → ClassId} {t : Nat → Nat} {o : Nat} {h0 : fh_H} {P : fh_H → Prop} (hf : wf_Fi K o h0 P) : fW l D K t y_Fi_init c0_Fi_init 1 rn_Fi [.ref o] h0 P 2 32 := by
  refine fh_bodyW (by decide) (Nat.le_of_ble_eq_true rfl) ?_
  intro p e s m below meth c A ls S hr hk hnm hE hAe hI hl
  obtain ⟨hx, hb, hml, hown, hts⟩ := id S
  have hl : lv_has ls 1 [(0, va_rf (some o))] := hl
  unfold wf_Fi wN wP at hf
  refine fh_aload_n S d_Fi_init_0 rfl (lv_at hl 0 rfl) ?_
  refine fh_oinit S k_710 k_755 k_754 hl.1 d_Fi_init_1 (by decide) (by decide) ?_
  refine fh_aload_n S d_Fi_init_4 rfl (lv_at hl 0 rfl) ?_
  refine lv_bipush (v := 16) hx hb d_Fi_init_5 (by decide) ?_
  refine fh_newa S hE hI (atype := .int) (a0 := zI 16) 0 rfl k_681 rfl (fun _ => rfl) (by decide) (by decide) (by decide) (Nat.le_of_ble_eq_true rfl) (Nat.le_of_ble_eq_true rfl) d_Fi_init_7 (fun q1 H f_q1 hI => ?_)
  replace hf := hf q1 f_q1
  obtain ⟨h2, e_h2, hf⟩ := hf
  refine fh_putf S hE.1 hI e_h2 (hc := rfl) (hin := in_4) tok_4 nok_4 (by decide) (hts _ k_15) rfl hnm rfl rfl rfl d_Fi_init_9 (fun H locs hI => ?_)
  refine fh_aload_n S d_Fi_init_12 rfl (lv_at hl 0 rfl) ?_
  refine lv_bipush (v := 16) hx hb d_Fi_init_13 (by decide) ?_
  refine fh_newa S hE hI (atype := .int) (a0 := zI 16) 0 rfl k_681 rfl (fun _ => rfl) (by decide) (by decide) (by decide) (Nat.le_of_ble_eq_true rfl) (Nat.le_of_ble_eq_true rfl) d_Fi_init_15 (fun q3 H f_q3 hI => ?_)
  replace hf := hf q3 f_q3
  obtain ⟨h4, e_h4, hf⟩ := hf
  refine fh_putf S hE.1 hI e_h4 (hc := rfl) (hin := in_4) tok_4 nok_4 (by decide) (hts _ k_16) rfl hnm rfl rfl rfl d_Fi_init_17 (fun H locs hI => ?_)
  refine fh_aload_n S d_Fi_init_20 rfl (lv_at hl 0 rfl) ?_
  refine lv_iconst (v := (-1)) hx hb d_Fi_init_21 (by decide) ?_
  obtain ⟨h5, e_h5, hf⟩ := hf
  refine fh_putv S hE.1 hI e_h5 (hc := rfl) (hin := in_4) tok_4 nok_4 (by decide) (hts _ k_2) rfl rfl rfl d_Fi_init_22 (fun H locs hI => ?_)
  exact fh_vretW S hr hk hAe hI hf d_Fi_init_25
theorem d_IL_init_0 : decode c0_IL_init 0 = .ok (.aload_n 0, 1) := by decide +kernel
theorem d_IL_init_1 : decode c0_IL_init 1 = .ok (.invokespecial 1, 3) := by decide +kernel
theorem d_IL_init_4 : decode c0_IL_init 4 = .ok (.aload_n 0, 1) := by decide +kernel
theorem d_IL_init_5 : decode c0_IL_init 5 = .ok (.iload_n 1, 1) := by decide +kernel
theorem d_IL_init_6 : decode c0_IL_init 6 = .ok (.iconst 0, 1) := by decide +kernel
theorem d_IL_init_7 : decode c0_IL_init 7 = .ok (.invokestatic 7, 3) := by decide +kernel
theorem d_IL_init_10 : decode c0_IL_init 10 = .ok (.newarray .int, 2) := by decide +kernel
theorem d_IL_init_12 : decode c0_IL_init 12 = .ok (.putfield 13, 3) := by decide +kernel
theorem d_IL_init_15 : decode c0_IL_init 15 = .ok (.return_, 1) := by decide +kernel
set_option maxHeartbeats 4000000 in
set_option maxRecDepth 100000 in
theorem c_IL_init {l : Launch} {D : va_G} {K : Nat → ClassId} {t : Nat → Nat} {o : Nat} {n : Nat} {h0 : fh_H} {P : fh_H → Prop} (hn : n ≤ 7140) (hf : wf_IL K o n h0 P) : fW l D K t y_IL_init c0_IL_init 2 rn_IL [.ref o, .int (nI n)] h0 P 1 7140 := by
  refine fh_bodyW (by decide) (Nat.le_of_ble_eq_true rfl) ?_
  intro p e s m below meth c A ls S hr hk hnm hE hAe hI hl
  obtain ⟨hx, hb, hml, hown, hts⟩ := id S
  have hl : lv_has ls 2 [(0, va_rf (some o)), (1, .int (nI n))] := hl
  unfold wf_IL wN wP at hf
  refine fh_aload_n S d_IL_init_0 rfl (lv_at hl 0 rfl) ?_
  refine fh_oinit S k_715 k_755 k_754 hl.1 d_IL_init_1 (by decide) (by decide) ?_
  refine fh_aload_n S d_IL_init_4 rfl (lv_at hl 0 rfl) ?_
  refine lv_iload_n hx hb d_IL_init_5 rfl (lv_at hl 1 rfl) ?_
  refine lv_iconst (v := 0) hx hb d_IL_init_6 (by decide) ?_
  refine va_mmax hx hb (hml.trans hl.1.symm) hown (hts _ k_716) (hts _ k_717) (hts _ k_685) (hts _ k_718) (by decide) (Nat.le_of_ble_eq_true rfl) (Nat.zero_le _) (Nat.zero_le _) d_IL_init_7 ?_
  rw [if_neg (nI_pos (n := n) (by omega))]
  refine fh_newa S hE hI (atype := .int) (a0 := zI n) (N' := n) 0 rfl k_681 rfl (fun _ => rfl) (nI_pos (by omega)) (nI_clamp (by omega)) (by show n * 4 ≤ 536870912; omega) (Nat.le_of_ble_eq_true rfl) (by show 0 + n ≤ 7140; omega) d_IL_init_10 (fun q1 H f_q1 hI => ?_)
  replace hf := hf q1 f_q1
  obtain ⟨h2, e_h2, hf⟩ := hf
  refine fh_putf S hE.1 hI e_h2 (hc := rfl) (hin := in_5) tok_5 nok_5 (by decide) (hts _ k_100) rfl hnm rfl rfl rfl d_IL_init_12 (fun H locs hI => ?_)
  refine W.widen (k := 1) (n := 7140) (by omega) (by omega) ?_
  exact fh_vretW S hr hk hAe hI hf d_IL_init_15
theorem d_Dr_init_0 : decode c0_Dr_init 0 = .ok (.aload_n 0, 1) := by decide +kernel
theorem d_Dr_init_1 : decode c0_Dr_init 1 = .ok (.invokespecial 3, 3) := by decide +kernel
theorem d_Dr_init_4 : decode c0_Dr_init 4 = .ok (.aload_n 0, 1) := by decide +kernel
theorem d_Dr_init_5 : decode c0_Dr_init 5 = .ok (.iconst 5, 1) := by decide +kernel
theorem d_Dr_init_6 : decode c0_Dr_init 6 = .ok (.anewarray 9, 3) := by decide +kernel
theorem d_Dr_init_9 : decode c0_Dr_init 9 = .ok (.putfield 11, 3) := by decide +kernel
theorem d_Dr_init_12 : decode c0_Dr_init 12 = .ok (.aload_n 0, 1) := by decide +kernel
theorem d_Dr_init_13 : decode c0_Dr_init 13 = .ok (.lconst 1, 1) := by decide +kernel
theorem d_Dr_init_14 : decode c0_Dr_init 14 = .ok (.putfield 17, 3) := by decide +kernel
theorem d_Dr_init_17 : decode c0_Dr_init 17 = .ok (.aload_n 0, 1) := by decide +kernel
theorem d_Dr_init_18 : decode c0_Dr_init 18 = .ok (.lconst 1, 1) := by decide +kernel
theorem d_Dr_init_19 : decode c0_Dr_init 19 = .ok (.putfield 21, 3) := by decide +kernel
theorem d_Dr_init_22 : decode c0_Dr_init 22 = .ok (.iconst 0, 1) := by decide +kernel
theorem d_Dr_init_23 : decode c0_Dr_init 23 = .ok (.istore_n 1, 1) := by decide +kernel
theorem d_Dr_init_29 : decode c0_Dr_init 29 = .ok (.aload_n 0, 1) := by decide +kernel
theorem d_Dr_init_30 : decode c0_Dr_init 30 = .ok (.getfield 11, 3) := by decide +kernel
theorem d_Dr_init_33 : decode c0_Dr_init 33 = .ok (.iload_n 1, 1) := by decide +kernel
theorem d_Dr_init_34 : decode c0_Dr_init 34 = .ok (.new 9, 3) := by decide +kernel
theorem d_Dr_init_37 : decode c0_Dr_init 37 = .ok (.dup, 1) := by decide +kernel
theorem d_Dr_init_38 : decode c0_Dr_init 38 = .ok (.invokespecial 24, 3) := by decide +kernel
theorem d_Dr_init_41 : decode c0_Dr_init 41 = .ok (.aastore, 1) := by decide +kernel
theorem d_Dr_init_42 : decode c0_Dr_init 42 = .ok (.iinc 1 1, 3) := by decide +kernel
theorem d_Dr_init_45 : decode c0_Dr_init 45 = .ok (.goto (-21), 3) := by decide +kernel
theorem d_Dr_init_24 : decode c0_Dr_init 24 = .ok (.iload_n 1, 1) := by decide +kernel
theorem d_Dr_init_25 : decode c0_Dr_init 25 = .ok (.iconst 5, 1) := by decide +kernel
theorem d_Dr_init_26 : decode c0_Dr_init 26 = .ok (.if_icmp .ge 22, 3) := by decide +kernel
theorem d_Dr_init_48 : decode c0_Dr_init 48 = .ok (.return_, 1) := by decide +kernel
set_option maxHeartbeats 4000000 in
set_option maxRecDepth 100000 in
theorem c_Dr_init {l : Launch} {D : va_G} {K : Nat → ClassId} {t : Nat → Nat} {o : Nat} {h0 : fh_H} {P : fh_H → Prop} (hf : wf_Dr K o h0 P) : fW l D K t y_Dr_init c0_Dr_init 2 rn_Dr [.ref o] h0 P 16 200 := by
  refine fh_bodyW (by decide) (Nat.le_of_ble_eq_true rfl) ?_
  intro p e s m below meth c A ls S hr hk hnm hE hAe hI hl
  obtain ⟨hx, hb, hml, hown, hts⟩ := id S
  have hl : lv_has ls 2 [(0, va_rf (some o))] := hl
  have L24 : ∀ (mm g : Nat) (h : fh_H) (H : Heap) (locs : List Loc) (ls : Array Slot), g + mm = 5 → fh_I D classes A s.heap h H locs → lv_has ls 2 [(1, .int (nI g)), (0, va_rf (some o))] → wl_Dr K o mm g h P → W p l e rn_Dr s m [Value.ref o].toArray below meth c H locs (1 + 3 * g) (5 + 39 * g) (MQ below (fun a st oc t => ∃ h', P h' ∧ fh_Q D classes h0 s.heap.size none h' a st oc t) [Value.ref o].toArray s 16 200 A) (F0 m 24 ls []) := by
    intro mm
    induction mm with
    | zero =>
      intro g h H locs ls hg hI hl hf
      have hg5 : g = 5 := by omega
      subst hg5
      refine lv_iload_n hx hb d_Dr_init_24 rfl (lv_at hl 0 rfl) ?_
      refine lv_iconst (v := 5) hx hb d_Dr_init_25 (by decide) ?_
      refine lv_icmp_ge (tgt := 48) hx hb d_Dr_init_26 (by decide) (fun _ => ?_) (fun c_26 => ?_)
      · exact fh_vretW S hr hk hAe hI hf d_Dr_init_48
      · exact absurd (by decide) c_26
    | succ mm ih =>
      intro g h H locs ls hg hI hl hf
      refine lv_iload_n hx hb d_Dr_init_24 rfl (lv_at hl 0 rfl) ?_
      refine lv_iconst (v := 5) hx hb d_Dr_init_25 (by decide) ?_
      refine lv_icmp_ge (tgt := 48) hx hb d_Dr_init_26 (by decide) (fun c_26 => ?_) (fun _ => ?_)
      · exact absurd c_26 (nI_ge (a := g) (b := 5) (by omega) (by decide))
      unfold wl_Dr wN at hf
      refine fh_aload_n S d_Dr_init_29 rfl (lv_at hl 1 rfl) ?_
      obtain ⟨sh, e_sh, hf⟩ := hf
      refine fh_geta S hE.1 hI e_sh (hc := rfl) (hin := in_3) (by decide) (hts _ k_4) d_Dr_init_30 ?_
      refine lv_iload_n hx hb d_Dr_init_33 rfl (lv_at hl 0 rfl) ?_
      refine fh_new S hE hI (ci := 4) rfl in_4 tok_4 k_707 k_678 k_212 (fs := [.null, .null, .int 0, .int 0, .long 0, .int 0, .int 0]) (by decide +kernel) (by show 1 + 3 * g + 1 ≤ 16; omega) (by show 5 + 39 * g + 7 ≤ 200; omega) d_Dr_init_34 (fun q1 H f_q1 hI => ?_)
      replace hf := hf q1 f_q1
      refine lv_dup hx hb d_Dr_init_37 rfl ?_
      refine fh_callIN (As := []) (rest := [.ref q1, .int (nI g), va_rf sh]) S fT_good hE hI (c_Fi_init hf) fy_Fi_init rfl k_708 kw_11 ⟨rfl, rfl⟩ ⟨Nat.le_of_ble_eq_true rfl, Nat.le_of_ble_eq_true rfl⟩ ⟨by show 1 + 3 * g + 1 + 2 ≤ 16; omega, by show 5 + 39 * g + 7 + 32 ≤ 200; omega⟩ rfl hl.1 rfl (Nat.le_trans (fh_cat _) (Nat.le_of_ble_eq_true rfl)) d_Dr_init_38 (fun hh H locs hf hI => ?_)
      obtain ⟨h2, e_h2, hf⟩ := hf
      refine fh_aast S hE.1 hI 3 rfl rfl e_h2 d_Dr_init_41 (fun H locs hI => ?_)
      refine lv_iinc (v := nI (g + 1)) (lv' := [(1, .int (nI (g + 1))), (0, va_rf (some o))]) hx hb d_Dr_init_42 hl (k := 0) rfl (by rw [← nI_1]; rfl) (by decide) rfl (fun ls hl => ?_)
      refine lv_goto (tgt := 24) hx hb d_Dr_init_45 (by decide) ?_
      have W2 := ih (g + 1) h2 H locs ls (by omega) hI hl hf
      rw [show 1 + 3 * (g + 1) = 1 + 3 * g + 1 + 2 from by omega, show 5 + 39 * (g + 1) = 5 + 39 * g + 7 + 32 from by omega] at W2
      exact W2
  unfold wf_Dr wN wP at hf
  refine fh_aload_n S d_Dr_init_0 rfl (lv_at hl 0 rfl) ?_
  refine fh_oinit S k_706 k_755 k_754 hl.1 d_Dr_init_1 (by decide) (by decide) ?_
  refine fh_aload_n S d_Dr_init_4 rfl (lv_at hl 0 rfl) ?_
  refine lv_iconst (v := 5) hx hb d_Dr_init_5 (by decide) ?_
  refine fh_newq S hE hI (N' := 5) 3 rfl k_707 kw_8 (by decide) (by decide) (by decide) (Nat.le_of_ble_eq_true rfl) (Nat.le_of_ble_eq_true rfl) d_Dr_init_6 (fun q1 H f_q1 hI => ?_)
  replace hf := hf q1 f_q1
  obtain ⟨h2, e_h2, hf⟩ := hf
  refine fh_putf S hE.1 hI e_h2 (hc := rfl) (hin := in_3) tok_3 nok_3 (by decide) (hts _ k_4) rfl hnm rfl rfl rfl d_Dr_init_9 (fun H locs hI => ?_)
  refine fh_aload_n S d_Dr_init_12 rfl (lv_at hl 0 rfl) ?_
  refine lv_lconst (v := 1) hx hb d_Dr_init_13 (by decide) ?_
  obtain ⟨h3, e_h3, hf⟩ := hf
  refine fh_putv S hE.1 hI e_h3 (hc := rfl) (hin := in_3) tok_3 nok_3 (by decide) (hts _ k_83) rfl rfl rfl d_Dr_init_14 (fun H locs hI => ?_)
  refine fh_aload_n S d_Dr_init_17 rfl (lv_at hl 0 rfl) ?_
  refine lv_lconst (v := 1) hx hb d_Dr_init_18 (by decide) ?_
  obtain ⟨h4, e_h4, hf⟩ := hf
  refine fh_putv S hE.1 hI e_h4 (hc := rfl) (hin := in_3) tok_3 nok_3 (by decide) (hts _ k_84) rfl rfl rfl d_Dr_init_19 (fun H locs hI => ?_)
  refine lv_iconst (v := 0) hx hb d_Dr_init_22 (by decide) ?_
  refine lv_istore_n (lv' := [(1, .int 0), (0, va_rf (some o))]) hx hb d_Dr_init_23 rfl hl (by decide) rfl (fun ls hl => ?_)
  exact L24 5 0 _ H _ ls (by omega) hI hl hf
