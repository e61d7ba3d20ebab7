/-! THE LAW'S CALLS, both sides at once -/
def LWI (K : Nat → ClassId) (L1 L2 : Nat → Nat → Nat) (h : fh_H) (S : CS) (M : MS) : Prop := cs_I L1 ∧ ms_I L2 ∧ (∀ t i t2 i2, i < cs_bd t → i2 < ms_bd t2 → L1 t i ≠ L2 t2 i2) ∧ cs_W K L1 h h S ∧ ms_W K L2 h h M ∧ STT S M
section LIS
variable {K : Nat → ClassId} {L1 L2 : Nat → Nat → Nat} {h : fh_H} {S : CS} {M : MS}
theorem LWI.call {tF : Option (Int32 × CS)} {tM : Option (Int32 × MS)} (fF fM : fh_H → Option (Int32 × fh_H)) (hl : LWI K L1 L2 h S M) (hc : CALL tF tM) (uF : ∀ res, tF = some res → RO (fun z => z.1 = res.1 ∧ cs_W K L1 h z.2 res.2) (fF h)) (uM : ∀ h1 res, ms_W K L2 h1 h1 M → tM = some res → RO (fun z => z.1 = res.1 ∧ ms_W K L2 h1 z.2 res.2) (fM h1)) : ∃ v h1 h2 S' M', fF h = some (v, h1) ∧ fM h1 = some (v, h2) ∧ (∃ fs, h1 (L2 0 0) = some (.inr (6, fs))) ∧ LWI K L1 L2 h2 S' M' := by
  obtain ⟨i1, i2, ap, w1, w2, st⟩ := hl
  obtain ⟨v, S', M', e1, e2, st'⟩ := hc
  obtain ⟨⟨v1, h1⟩, g1, g2, g3⟩ := uF _ e1
  dsimp only at g2 g3
  have w2' : ms_W K L2 h1 h1 M := ⟨fun t i hi => (g3.2 (L2 t i) (fun t1 j1 hj => (ap t1 j1 t i hj hi).symm)).trans (w2.1 t i hi), fun _ _ => rfl⟩
  obtain ⟨⟨v2, h2⟩, k1, k2, k3⟩ := uM h1 _ w2' e2
  dsimp only at k2 k3
  rw [g2] at g1
  rw [k2] at k1
  exact ⟨v, h1, h2, S', M', g1, k1, ⟨_, w2'.1 0 0 (by decide)⟩, i1, i2, ap, ⟨fun t i hi => (k3.2 (L1 t i) (fun t1 j1 hj => ap t i t1 j1 hi hj)).trans (g3.1 t i hi), fun _ _ => rfl⟩, ⟨k3.1, fun _ _ => rfl⟩, st'⟩
theorem LWI.ask {tF tM : Option Int32} (fF fM : fh_H → Option (Int32 × fh_H)) (hl : LWI K L1 L2 h S M) (hc : CALLr tF tM) (uF : ∀ res, tF = some res → RO (fun z => (res, h) = z) (fF h)) (uM : ∀ res, tM = some res → RO (fun z => (res, h) = z) (fM h)) : ∃ v h1 h2 S' M', fF h = some (v, h1) ∧ fM h1 = some (v, h2) ∧ (∃ fs, h1 (L2 0 0) = some (.inr (6, fs))) ∧ LWI K L1 L2 h2 S' M' := by
  obtain ⟨v, e1, e2⟩ := hc
  obtain ⟨z1, g1, g2⟩ := uF _ e1
  obtain ⟨z2, k1, k2⟩ := uM _ e2
  rw [← g2] at g1
  rw [← k2] at k1
  exact ⟨v, h, h, S, M, g1, k1, ⟨_, hl.2.2.2.2.1.1 0 0 (by decide)⟩, hl⟩
end LIS
set_option maxHeartbeats 4000000 in
set_option maxRecDepth 100000 in
theorem law_clear {p : Program} {l : Launch} {e : Env} {s : State} {m : MethodId} {below : List Frame} {meth : Method} {c : Code} {D : va_G} {K t : Nat → Nat} {b L : Nat} {xs : Nat → Int32} {L1 L2 : Nat → Nat → Nat} {h : fh_H} {S0 : CS} {M0 : MS} {H : Heap} {locs : List Loc} {ls : Array Slot} {i : Nat} {Q : State → Prop} (S : CallFix p m c code 4 s #[Value.ref b] fT "FactFinderLaw") (hE : fh_E D classes (tysK K) (tbT t) NWL2 (fun q => s.heap.size ≤ q) s) (hX : va_X b L xs s s.heap) (hbl : b < s.heap.size) (hL : L ≤ 4096) (hi : i + 8 ≤ L) (hLI : LWI K L1 L2 h S0 M0) (hI : fh_I D classes (fun q => s.heap.size ≤ q) s.heap h H locs) (hl : lv_has ls 4 [(0, .ref b), (1, va_rf (some (L1 0 0))), (2, va_rf (some (L2 0 0))), (3, .int (nI i))]) (kk : ∀ (h2 : fh_H) (S' : CS) (M' : MS) (H : Heap) (locs : List Loc), LWI K L1 L2 h2 S' M' → fh_I D classes (fun q => s.heap.size ≤ q) s.heap h2 H locs → W p l e room_1 s m #[Value.ref b] below meth c H locs 76 87639 Q (F0 m 652 ls [])) : W p l e room_1 s m #[Value.ref b] below meth c H locs 76 87639 Q (F0 m 104 ls []) := by
  obtain ⟨hx, hb, hml, hown, hts⟩ := id S
  have hbA : ¬ (fun q : Nat => s.heap.size ≤ q) b := Nat.not_le.mpr hbl
  have hin : ∀ k : Nat, k < 8 → vp_in (nI i + nI k) L := fun k hk => by rw [nI_add]; exact vp_in_nI (by omega) (by omega)
  obtain ⟨v, h1, h2, S', M', e1, e2, ⟨fs, e3⟩, hLI2⟩ := hLI.call (tF := t_FF_clear 2000  S0) (tM := t_Mo_clear 2000  M0) (fun h => f_FF_clear K 2000 (L1 0 0)  h) (fun h => f_Mo_clear K 2000 (L2 0 0)  h) (call_clear (Nat.le_refl _) hLI.2.2.2.2.2) (fun res ht => u_FF_clear hLI.1 ht hLI.2.2.2.1) (fun h1 res hW ht => u_Mo_clear hLI.2.1 ht hW)
  replace e1 : f_FF_clear K 2000 (L1 0 0)  h = some (v, h1) := e1
  replace e2 : f_Mo_clear K 2000 (L2 0 0)  h1 = some (v, h2) := e2
  refine fh_aload_n S d_law_104 rfl (lv_at hl 1 rfl) ?_
  refine fh_callV (As := []) (rest := []) S fT_good (hE.nw nw_sub) hI (oi_o (hLI.2.2.2.1.1 0 0 (by decide))) rfl (c_FF_clear e1) fy_FF_clear fst_FF_clear k_721 ⟨rfl, rfl⟩ ⟨Nat.le_of_ble_eq_true rfl, Nat.le_of_ble_eq_true rfl⟩ ⟨Nat.le_of_ble_eq_true rfl, Nat.le_of_ble_eq_true rfl⟩ rfl hl.1 rfl (Nat.le_of_ble_eq_true rfl) d_law_105 (fun H locs hI => ?_)
  refine fh_aload_n S d_law_108 rfl (lv_at hl 2 rfl) ?_
  refine fh_callV (As := []) (rest := [.int v]) S fT_good (hE.nw nw_sub) hI (oi_o e3) rfl (c_Mo_clear e2) fy_Mo_clear fst_Mo_clear k_740 ⟨rfl, rfl⟩ ⟨Nat.le_of_ble_eq_true rfl, Nat.le_of_ble_eq_true rfl⟩ ⟨Nat.le_of_ble_eq_true rfl, Nat.le_of_ble_eq_true rfl⟩ rfl hl.1 rfl (Nat.le_of_ble_eq_true rfl) d_law_109 (fun H locs hI => ?_)
  refine lv_icmp_eq (tgt := 652) hx hb d_law_112 (by decide) (fun _ => ?_) (fun z => absurd rfl z)
  exact kk h2 S' M' _ _ hLI2 hI
set_option maxHeartbeats 4000000 in
set_option maxRecDepth 100000 in
theorem law_step {p : Program} {l : Launch} {e : Env} {s : State} {m : MethodId} {below : List Frame} {meth : Method} {c : Code} {D : va_G} {K t : Nat → Nat} {b L : Nat} {xs : Nat → Int32} {L1 L2 : Nat → Nat → Nat} {h : fh_H} {S0 : CS} {M0 : MS} {H : Heap} {locs : List Loc} {ls : Array Slot} {i : Nat} {Q : State → Prop} (S : CallFix p m c code 4 s #[Value.ref b] fT "FactFinderLaw") (hE : fh_E D classes (tysK K) (tbT t) NWL2 (fun q => s.heap.size ≤ q) s) (hX : va_X b L xs s s.heap) (hbl : b < s.heap.size) (hL : L ≤ 4096) (hi : i + 8 ≤ L) (hLI : LWI K L1 L2 h S0 M0) (hI : fh_I D classes (fun q => s.heap.size ≤ q) s.heap h H locs) (hl : lv_has ls 4 [(0, .ref b), (1, va_rf (some (L1 0 0))), (2, va_rf (some (L2 0 0))), (3, .int (nI i))]) (kk : ∀ (h2 : fh_H) (S' : CS) (M' : MS) (H : Heap) (locs : List Loc), LWI K L1 L2 h2 S' M' → fh_I D classes (fun q => s.heap.size ≤ q) s.heap h2 H locs → W p l e room_1 s m #[Value.ref b] below meth c H locs 76 87639 Q (F0 m 652 ls [])) : W p l e room_1 s m #[Value.ref b] below meth c H locs 76 87639 Q (F0 m 117 ls []) := by
  obtain ⟨hx, hb, hml, hown, hts⟩ := id S
  have hbA : ¬ (fun q : Nat => s.heap.size ≤ q) b := Nat.not_le.mpr hbl
  have hin : ∀ k : Nat, k < 8 → vp_in (nI i + nI k) L := fun k hk => by rw [nI_add]; exact vp_in_nI (by omega) (by omega)
  obtain ⟨v, h1, h2, S', M', e1, e2, ⟨fs, e3⟩, hLI2⟩ := hLI.call (tF := t_FF_step 2000 (xs (nI i + 1).toNatClampNeg) (xs (nI i + 2).toNatClampNeg) (xs (nI i + 3).toNatClampNeg) (xs (nI i + 4).toNatClampNeg) (xs (nI i + 5).toNatClampNeg) S0) (tM := t_Mo_step 2000 (xs (nI i + 1).toNatClampNeg) (xs (nI i + 2).toNatClampNeg) (xs (nI i + 3).toNatClampNeg) (xs (nI i + 4).toNatClampNeg) (xs (nI i + 5).toNatClampNeg) M0) (fun h => f_FF_step K 2000 (L1 0 0) (xs (nI i + 1).toNatClampNeg) (xs (nI i + 2).toNatClampNeg) (xs (nI i + 3).toNatClampNeg) (xs (nI i + 4).toNatClampNeg) (xs (nI i + 5).toNatClampNeg) h) (fun h => f_Mo_step K 2000 (L2 0 0) (xs (nI i + 1).toNatClampNeg) (xs (nI i + 2).toNatClampNeg) (xs (nI i + 3).toNatClampNeg) (xs (nI i + 4).toNatClampNeg) (xs (nI i + 5).toNatClampNeg) h) (call_step (Nat.le_refl _) hLI.2.2.2.2.2) (fun res ht => u_FF_step hLI.1 ht hLI.2.2.2.1) (fun h1 res hW ht => u_Mo_step hLI.2.1 ht hW)
  replace e1 : f_FF_step K 2000 (L1 0 0) (xs (nI i + 1).toNatClampNeg) (xs (nI i + 2).toNatClampNeg) (xs (nI i + 3).toNatClampNeg) (xs (nI i + 4).toNatClampNeg) (xs (nI i + 5).toNatClampNeg) h = some (v, h1) := e1
  replace e2 : f_Mo_step K 2000 (L2 0 0) (xs (nI i + 1).toNatClampNeg) (xs (nI i + 2).toNatClampNeg) (xs (nI i + 3).toNatClampNeg) (xs (nI i + 4).toNatClampNeg) (xs (nI i + 5).toNatClampNeg) h1 = some (v, h2) := e2
  refine fh_aload_n S d_law_117 rfl (lv_at hl 1 rfl) ?_
  refine lv_aload_n hx hb d_law_118 rfl (lv_at hl 0 rfl) ?_
  refine lv_iload_n hx hb d_law_119 rfl (lv_at hl 3 rfl) ?_
  refine lv_iconst (v := 1) hx hb d_law_120 (by decide) ?_
  refine lv_iadd hx hb d_law_121 ?_
  refine va_sld hx hb hX hbl hbA hI.2.2 (hin 1 (by decide)) d_law_122 ?_
  refine lv_aload_n hx hb d_law_123 rfl (lv_at hl 0 rfl) ?_
  refine lv_iload_n hx hb d_law_124 rfl (lv_at hl 3 rfl) ?_
  refine lv_iconst (v := 2) hx hb d_law_125 (by decide) ?_
  refine lv_iadd hx hb d_law_126 ?_
  refine va_sld hx hb hX hbl hbA hI.2.2 (hin 2 (by decide)) d_law_127 ?_
  refine lv_aload_n hx hb d_law_128 rfl (lv_at hl 0 rfl) ?_
  refine lv_iload_n hx hb d_law_129 rfl (lv_at hl 3 rfl) ?_
  refine lv_iconst (v := 3) hx hb d_law_130 (by decide) ?_
  refine lv_iadd hx hb d_law_131 ?_
  refine va_sld hx hb hX hbl hbA hI.2.2 (hin 3 (by decide)) d_law_132 ?_
  refine lv_aload_n hx hb d_law_133 rfl (lv_at hl 0 rfl) ?_
  refine lv_iload_n hx hb d_law_134 rfl (lv_at hl 3 rfl) ?_
  refine lv_iconst (v := 4) hx hb d_law_135 (by decide) ?_
  refine lv_iadd hx hb d_law_136 ?_
  refine va_sld hx hb hX hbl hbA hI.2.2 (hin 4 (by decide)) d_law_137 ?_
  refine lv_aload_n hx hb d_law_138 rfl (lv_at hl 0 rfl) ?_
  refine lv_iload_n hx hb d_law_139 rfl (lv_at hl 3 rfl) ?_
  refine lv_iconst (v := 5) hx hb d_law_140 (by decide) ?_
  refine lv_iadd hx hb d_law_141 ?_
  refine va_sld hx hb hX hbl hbA hI.2.2 (hin 5 (by decide)) d_law_142 ?_
  refine fh_callV (As := [.int (xs (nI i + 1).toNatClampNeg), .int (xs (nI i + 2).toNatClampNeg), .int (xs (nI i + 3).toNatClampNeg), .int (xs (nI i + 4).toNatClampNeg), .int (xs (nI i + 5).toNatClampNeg)]) (rest := []) S fT_good (hE.nw nw_sub) hI (oi_o (hLI.2.2.2.1.1 0 0 (by decide))) rfl (c_FF_step e1) fy_FF_step fst_FF_step k_722 ⟨rfl, rfl⟩ ⟨Nat.le_of_ble_eq_true rfl, Nat.le_of_ble_eq_true rfl⟩ ⟨Nat.le_of_ble_eq_true rfl, Nat.le_of_ble_eq_true rfl⟩ rfl hl.1 rfl (Nat.le_of_ble_eq_true rfl) d_law_143 (fun H locs hI => ?_)
  refine fh_aload_n S d_law_146 rfl (lv_at hl 2 rfl) ?_
  refine lv_aload_n hx hb d_law_147 rfl (lv_at hl 0 rfl) ?_
  refine lv_iload_n hx hb d_law_148 rfl (lv_at hl 3 rfl) ?_
  refine lv_iconst (v := 1) hx hb d_law_149 (by decide) ?_
  refine lv_iadd hx hb d_law_150 ?_
  refine va_sld hx hb hX hbl hbA hI.2.2 (hin 1 (by decide)) d_law_151 ?_
  refine lv_aload_n hx hb d_law_152 rfl (lv_at hl 0 rfl) ?_
  refine lv_iload_n hx hb d_law_153 rfl (lv_at hl 3 rfl) ?_
  refine lv_iconst (v := 2) hx hb d_law_154 (by decide) ?_
  refine lv_iadd hx hb d_law_155 ?_
  refine va_sld hx hb hX hbl hbA hI.2.2 (hin 2 (by decide)) d_law_156 ?_
  refine lv_aload_n hx hb d_law_157 rfl (lv_at hl 0 rfl) ?_
  refine lv_iload_n hx hb d_law_158 rfl (lv_at hl 3 rfl) ?_
  refine lv_iconst (v := 3) hx hb d_law_159 (by decide) ?_
  refine lv_iadd hx hb d_law_160 ?_
  refine va_sld hx hb hX hbl hbA hI.2.2 (hin 3 (by decide)) d_law_161 ?_
  refine lv_aload_n hx hb d_law_162 rfl (lv_at hl 0 rfl) ?_
  refine lv_iload_n hx hb d_law_163 rfl (lv_at hl 3 rfl) ?_
  refine lv_iconst (v := 4) hx hb d_law_164 (by decide) ?_
  refine lv_iadd hx hb d_law_165 ?_
  refine va_sld hx hb hX hbl hbA hI.2.2 (hin 4 (by decide)) d_law_166 ?_
  refine lv_aload_n hx hb d_law_167 rfl (lv_at hl 0 rfl) ?_
  refine lv_iload_n hx hb d_law_168 rfl (lv_at hl 3 rfl) ?_
  refine lv_iconst (v := 5) hx hb d_law_169 (by decide) ?_
  refine lv_iadd hx hb d_law_170 ?_
  refine va_sld hx hb hX hbl hbA hI.2.2 (hin 5 (by decide)) d_law_171 ?_
  refine fh_callV (As := [.int (xs (nI i + 1).toNatClampNeg), .int (xs (nI i + 2).toNatClampNeg), .int (xs (nI i + 3).toNatClampNeg), .int (xs (nI i + 4).toNatClampNeg), .int (xs (nI i + 5).toNatClampNeg)]) (rest := [.int v]) S fT_good (hE.nw nw_sub) hI (oi_o e3) rfl (c_Mo_step e2) fy_Mo_step fst_Mo_step k_741 ⟨rfl, rfl⟩ ⟨Nat.le_of_ble_eq_true rfl, Nat.le_of_ble_eq_true rfl⟩ ⟨Nat.le_of_ble_eq_true rfl, Nat.le_of_ble_eq_true rfl⟩ rfl hl.1 rfl (Nat.le_of_ble_eq_true rfl) d_law_172 (fun H locs hI => ?_)
  refine lv_icmp_eq (tgt := 652) hx hb d_law_175 (by decide) (fun _ => ?_) (fun z => absurd rfl z)
  exact kk h2 S' M' _ _ hLI2 hI
set_option maxHeartbeats 4000000 in
set_option maxRecDepth 100000 in
theorem law_change {p : Program} {l : Launch} {e : Env} {s : State} {m : MethodId} {below : List Frame} {meth : Method} {c : Code} {D : va_G} {K t : Nat → Nat} {b L : Nat} {xs : Nat → Int32} {L1 L2 : Nat → Nat → Nat} {h : fh_H} {S0 : CS} {M0 : MS} {H : Heap} {locs : List Loc} {ls : Array Slot} {i : Nat} {Q : State → Prop} (S : CallFix p m c code 4 s #[Value.ref b] fT "FactFinderLaw") (hE : fh_E D classes (tysK K) (tbT t) NWL2 (fun q => s.heap.size ≤ q) s) (hX : va_X b L xs s s.heap) (hbl : b < s.heap.size) (hL : L ≤ 4096) (hi : i + 8 ≤ L) (hLI : LWI K L1 L2 h S0 M0) (hI : fh_I D classes (fun q => s.heap.size ≤ q) s.heap h H locs) (hl : lv_has ls 4 [(0, .ref b), (1, va_rf (some (L1 0 0))), (2, va_rf (some (L2 0 0))), (3, .int (nI i))]) (kk : ∀ (h2 : fh_H) (S' : CS) (M' : MS) (H : Heap) (locs : List Loc), LWI K L1 L2 h2 S' M' → fh_I D classes (fun q => s.heap.size ≤ q) s.heap h2 H locs → W p l e room_1 s m #[Value.ref b] below meth c H locs 76 87639 Q (F0 m 652 ls [])) : W p l e room_1 s m #[Value.ref b] below meth c H locs 76 87639 Q (F0 m 180 ls []) := by
  obtain ⟨hx, hb, hml, hown, hts⟩ := id S
  have hbA : ¬ (fun q : Nat => s.heap.size ≤ q) b := Nat.not_le.mpr hbl
  have hin : ∀ k : Nat, k < 8 → vp_in (nI i + nI k) L := fun k hk => by rw [nI_add]; exact vp_in_nI (by omega) (by omega)
  obtain ⟨v, h1, h2, S', M', e1, e2, ⟨fs, e3⟩, hLI2⟩ := hLI.call (tF := t_FF_change 2000 (xs (nI i + 1).toNatClampNeg) (xs (nI i + 2).toNatClampNeg) (xs (nI i + 3).toNatClampNeg) (xs (nI i + 4).toNatClampNeg) (xs (nI i + 5).toNatClampNeg) (xs (nI i + 6).toNatClampNeg) S0) (tM := t_Mo_change 2000 (xs (nI i + 1).toNatClampNeg) (xs (nI i + 2).toNatClampNeg) (xs (nI i + 3).toNatClampNeg) (xs (nI i + 4).toNatClampNeg) (xs (nI i + 5).toNatClampNeg) (xs (nI i + 6).toNatClampNeg) M0) (fun h => f_FF_change K 2000 (L1 0 0) (xs (nI i + 1).toNatClampNeg) (xs (nI i + 2).toNatClampNeg) (xs (nI i + 3).toNatClampNeg) (xs (nI i + 4).toNatClampNeg) (xs (nI i + 5).toNatClampNeg) (xs (nI i + 6).toNatClampNeg) h) (fun h => f_Mo_change K 2000 (L2 0 0) (xs (nI i + 1).toNatClampNeg) (xs (nI i + 2).toNatClampNeg) (xs (nI i + 3).toNatClampNeg) (xs (nI i + 4).toNatClampNeg) (xs (nI i + 5).toNatClampNeg) (xs (nI i + 6).toNatClampNeg) h) (call_change (Nat.le_refl _) hLI.2.2.2.2.2) (fun res ht => u_FF_change hLI.1 ht hLI.2.2.2.1) (fun h1 res hW ht => u_Mo_change hLI.2.1 ht hW)
  replace e1 : f_FF_change K 2000 (L1 0 0) (xs (nI i + 1).toNatClampNeg) (xs (nI i + 2).toNatClampNeg) (xs (nI i + 3).toNatClampNeg) (xs (nI i + 4).toNatClampNeg) (xs (nI i + 5).toNatClampNeg) (xs (nI i + 6).toNatClampNeg) h = some (v, h1) := e1
  replace e2 : f_Mo_change K 2000 (L2 0 0) (xs (nI i + 1).toNatClampNeg) (xs (nI i + 2).toNatClampNeg) (xs (nI i + 3).toNatClampNeg) (xs (nI i + 4).toNatClampNeg) (xs (nI i + 5).toNatClampNeg) (xs (nI i + 6).toNatClampNeg) h1 = some (v, h2) := e2
  refine fh_aload_n S d_law_180 rfl (lv_at hl 1 rfl) ?_
  refine lv_aload_n hx hb d_law_181 rfl (lv_at hl 0 rfl) ?_
  refine lv_iload_n hx hb d_law_182 rfl (lv_at hl 3 rfl) ?_
  refine lv_iconst (v := 1) hx hb d_law_183 (by decide) ?_
  refine lv_iadd hx hb d_law_184 ?_
  refine va_sld hx hb hX hbl hbA hI.2.2 (hin 1 (by decide)) d_law_185 ?_
  refine lv_aload_n hx hb d_law_186 rfl (lv_at hl 0 rfl) ?_
  refine lv_iload_n hx hb d_law_187 rfl (lv_at hl 3 rfl) ?_
  refine lv_iconst (v := 2) hx hb d_law_188 (by decide) ?_
  refine lv_iadd hx hb d_law_189 ?_
  refine va_sld hx hb hX hbl hbA hI.2.2 (hin 2 (by decide)) d_law_190 ?_
  refine lv_aload_n hx hb d_law_191 rfl (lv_at hl 0 rfl) ?_
  refine lv_iload_n hx hb d_law_192 rfl (lv_at hl 3 rfl) ?_
  refine lv_iconst (v := 3) hx hb d_law_193 (by decide) ?_
  refine lv_iadd hx hb d_law_194 ?_
  refine va_sld hx hb hX hbl hbA hI.2.2 (hin 3 (by decide)) d_law_195 ?_
  refine lv_aload_n hx hb d_law_196 rfl (lv_at hl 0 rfl) ?_
  refine lv_iload_n hx hb d_law_197 rfl (lv_at hl 3 rfl) ?_
  refine lv_iconst (v := 4) hx hb d_law_198 (by decide) ?_
  refine lv_iadd hx hb d_law_199 ?_
  refine va_sld hx hb hX hbl hbA hI.2.2 (hin 4 (by decide)) d_law_200 ?_
  refine lv_aload_n hx hb d_law_201 rfl (lv_at hl 0 rfl) ?_
  refine lv_iload_n hx hb d_law_202 rfl (lv_at hl 3 rfl) ?_
  refine lv_iconst (v := 5) hx hb d_law_203 (by decide) ?_
  refine lv_iadd hx hb d_law_204 ?_
  refine va_sld hx hb hX hbl hbA hI.2.2 (hin 5 (by decide)) d_law_205 ?_
  refine lv_aload_n hx hb d_law_206 rfl (lv_at hl 0 rfl) ?_
  refine lv_iload_n hx hb d_law_207 rfl (lv_at hl 3 rfl) ?_
  refine lv_bipush (v := 6) hx hb d_law_208 (by decide) ?_
  refine lv_iadd hx hb d_law_210 ?_
  refine va_sld hx hb hX hbl hbA hI.2.2 (hin 6 (by decide)) d_law_211 ?_
  refine fh_callV (As := [.int (xs (nI i + 1).toNatClampNeg), .int (xs (nI i + 2).toNatClampNeg), .int (xs (nI i + 3).toNatClampNeg), .int (xs (nI i + 4).toNatClampNeg), .int (xs (nI i + 5).toNatClampNeg), .int (xs (nI i + 6).toNatClampNeg)]) (rest := []) S fT_good (hE.nw nw_sub) hI (oi_o (hLI.2.2.2.1.1 0 0 (by decide))) rfl (c_FF_change e1) fy_FF_change fst_FF_change k_723 ⟨rfl, rfl⟩ ⟨Nat.le_of_ble_eq_true rfl, Nat.le_of_ble_eq_true rfl⟩ ⟨Nat.le_of_ble_eq_true rfl, Nat.le_of_ble_eq_true rfl⟩ rfl hl.1 rfl (Nat.le_of_ble_eq_true rfl) d_law_212 (fun H locs hI => ?_)
  refine fh_aload_n S d_law_215 rfl (lv_at hl 2 rfl) ?_
  refine lv_aload_n hx hb d_law_216 rfl (lv_at hl 0 rfl) ?_
  refine lv_iload_n hx hb d_law_217 rfl (lv_at hl 3 rfl) ?_
  refine lv_iconst (v := 1) hx hb d_law_218 (by decide) ?_
  refine lv_iadd hx hb d_law_219 ?_
  refine va_sld hx hb hX hbl hbA hI.2.2 (hin 1 (by decide)) d_law_220 ?_
  refine lv_aload_n hx hb d_law_221 rfl (lv_at hl 0 rfl) ?_
  refine lv_iload_n hx hb d_law_222 rfl (lv_at hl 3 rfl) ?_
  refine lv_iconst (v := 2) hx hb d_law_223 (by decide) ?_
  refine lv_iadd hx hb d_law_224 ?_
  refine va_sld hx hb hX hbl hbA hI.2.2 (hin 2 (by decide)) d_law_225 ?_
  refine lv_aload_n hx hb d_law_226 rfl (lv_at hl 0 rfl) ?_
  refine lv_iload_n hx hb d_law_227 rfl (lv_at hl 3 rfl) ?_
  refine lv_iconst (v := 3) hx hb d_law_228 (by decide) ?_
  refine lv_iadd hx hb d_law_229 ?_
  refine va_sld hx hb hX hbl hbA hI.2.2 (hin 3 (by decide)) d_law_230 ?_
  refine lv_aload_n hx hb d_law_231 rfl (lv_at hl 0 rfl) ?_
  refine lv_iload_n hx hb d_law_232 rfl (lv_at hl 3 rfl) ?_
  refine lv_iconst (v := 4) hx hb d_law_233 (by decide) ?_
  refine lv_iadd hx hb d_law_234 ?_
  refine va_sld hx hb hX hbl hbA hI.2.2 (hin 4 (by decide)) d_law_235 ?_
  refine lv_aload_n hx hb d_law_236 rfl (lv_at hl 0 rfl) ?_
  refine lv_iload_n hx hb d_law_237 rfl (lv_at hl 3 rfl) ?_
  refine lv_iconst (v := 5) hx hb d_law_238 (by decide) ?_
  refine lv_iadd hx hb d_law_239 ?_
  refine va_sld hx hb hX hbl hbA hI.2.2 (hin 5 (by decide)) d_law_240 ?_
  refine lv_aload_n hx hb d_law_241 rfl (lv_at hl 0 rfl) ?_
  refine lv_iload_n hx hb d_law_242 rfl (lv_at hl 3 rfl) ?_
  refine lv_bipush (v := 6) hx hb d_law_243 (by decide) ?_
  refine lv_iadd hx hb d_law_245 ?_
  refine va_sld hx hb hX hbl hbA hI.2.2 (hin 6 (by decide)) d_law_246 ?_
  refine fh_callV (As := [.int (xs (nI i + 1).toNatClampNeg), .int (xs (nI i + 2).toNatClampNeg), .int (xs (nI i + 3).toNatClampNeg), .int (xs (nI i + 4).toNatClampNeg), .int (xs (nI i + 5).toNatClampNeg), .int (xs (nI i + 6).toNatClampNeg)]) (rest := [.int v]) S fT_good (hE.nw nw_sub) hI (oi_o e3) rfl (c_Mo_change e2) fy_Mo_change fst_Mo_change k_742 ⟨rfl, rfl⟩ ⟨Nat.le_of_ble_eq_true rfl, Nat.le_of_ble_eq_true rfl⟩ ⟨Nat.le_of_ble_eq_true rfl, Nat.le_of_ble_eq_true rfl⟩ rfl hl.1 rfl (Nat.le_of_ble_eq_true rfl) d_law_247 (fun H locs hI => ?_)
  refine lv_icmp_eq (tgt := 652) hx hb d_law_250 (by decide) (fun _ => ?_) (fun z => absurd rfl z)
  exact kk h2 S' M' _ _ hLI2 hI
set_option maxHeartbeats 4000000 in
set_option maxRecDepth 100000 in
theorem law_draw {p : Program} {l : Launch} {e : Env} {s : State} {m : MethodId} {below : List Frame} {meth : Method} {c : Code} {D : va_G} {K t : Nat → Nat} {b L : Nat} {xs : Nat → Int32} {L1 L2 : Nat → Nat → Nat} {h : fh_H} {S0 : CS} {M0 : MS} {H : Heap} {locs : List Loc} {ls : Array Slot} {i : Nat} {Q : State → Prop} (S : CallFix p m c code 4 s #[Value.ref b] fT "FactFinderLaw") (hE : fh_E D classes (tysK K) (tbT t) NWL2 (fun q => s.heap.size ≤ q) s) (hX : va_X b L xs s s.heap) (hbl : b < s.heap.size) (hL : L ≤ 4096) (hi : i + 8 ≤ L) (hLI : LWI K L1 L2 h S0 M0) (hI : fh_I D classes (fun q => s.heap.size ≤ q) s.heap h H locs) (hl : lv_has ls 4 [(0, .ref b), (1, va_rf (some (L1 0 0))), (2, va_rf (some (L2 0 0))), (3, .int (nI i))]) (kk : ∀ (h2 : fh_H) (S' : CS) (M' : MS) (H : Heap) (locs : List Loc), LWI K L1 L2 h2 S' M' → fh_I D classes (fun q => s.heap.size ≤ q) s.heap h2 H locs → W p l e room_1 s m #[Value.ref b] below meth c H locs 76 87639 Q (F0 m 652 ls [])) : W p l e room_1 s m #[Value.ref b] below meth c H locs 76 87639 Q (F0 m 255 ls []) := by
  obtain ⟨hx, hb, hml, hown, hts⟩ := id S
  have hbA : ¬ (fun q : Nat => s.heap.size ≤ q) b := Nat.not_le.mpr hbl
  have hin : ∀ k : Nat, k < 8 → vp_in (nI i + nI k) L := fun k hk => by rw [nI_add]; exact vp_in_nI (by omega) (by omega)
  obtain ⟨v, h1, h2, S', M', e1, e2, ⟨fs, e3⟩, hLI2⟩ := hLI.call (tF := t_FF_draw 2000 (xs (nI i + 1).toNatClampNeg) (xs (nI i + 2).toNatClampNeg) S0) (tM := t_Mo_draw 2000 (xs (nI i + 1).toNatClampNeg) (xs (nI i + 2).toNatClampNeg) M0) (fun h => f_FF_draw K 2000 (L1 0 0) (xs (nI i + 1).toNatClampNeg) (xs (nI i + 2).toNatClampNeg) h) (fun h => f_Mo_draw K 2000 (L2 0 0) (xs (nI i + 1).toNatClampNeg) (xs (nI i + 2).toNatClampNeg) h) (call_draw (Nat.le_refl _) hLI.2.2.2.2.2) (fun res ht => u_FF_draw hLI.1 ht hLI.2.2.2.1) (fun h1 res hW ht => u_Mo_draw hLI.2.1 ht hW)
  replace e1 : f_FF_draw K 2000 (L1 0 0) (xs (nI i + 1).toNatClampNeg) (xs (nI i + 2).toNatClampNeg) h = some (v, h1) := e1
  replace e2 : f_Mo_draw K 2000 (L2 0 0) (xs (nI i + 1).toNatClampNeg) (xs (nI i + 2).toNatClampNeg) h1 = some (v, h2) := e2
  refine fh_aload_n S d_law_255 rfl (lv_at hl 1 rfl) ?_
  refine lv_aload_n hx hb d_law_256 rfl (lv_at hl 0 rfl) ?_
  refine lv_iload_n hx hb d_law_257 rfl (lv_at hl 3 rfl) ?_
  refine lv_iconst (v := 1) hx hb d_law_258 (by decide) ?_
  refine lv_iadd hx hb d_law_259 ?_
  refine va_sld hx hb hX hbl hbA hI.2.2 (hin 1 (by decide)) d_law_260 ?_
  refine lv_aload_n hx hb d_law_261 rfl (lv_at hl 0 rfl) ?_
  refine lv_iload_n hx hb d_law_262 rfl (lv_at hl 3 rfl) ?_
  refine lv_iconst (v := 2) hx hb d_law_263 (by decide) ?_
  refine lv_iadd hx hb d_law_264 ?_
  refine va_sld hx hb hX hbl hbA hI.2.2 (hin 2 (by decide)) d_law_265 ?_
  refine fh_callV (As := [.int (xs (nI i + 1).toNatClampNeg), .int (xs (nI i + 2).toNatClampNeg)]) (rest := []) S fT_good (hE.nw nw_sub) hI (oi_o (hLI.2.2.2.1.1 0 0 (by decide))) rfl (c_FF_draw e1) fy_FF_draw fst_FF_draw k_724 ⟨rfl, rfl⟩ ⟨Nat.le_of_ble_eq_true rfl, Nat.le_of_ble_eq_true rfl⟩ ⟨Nat.le_of_ble_eq_true rfl, Nat.le_of_ble_eq_true rfl⟩ rfl hl.1 rfl (Nat.le_of_ble_eq_true rfl) d_law_266 (fun H locs hI => ?_)
  refine fh_aload_n S d_law_269 rfl (lv_at hl 2 rfl) ?_
  refine lv_aload_n hx hb d_law_270 rfl (lv_at hl 0 rfl) ?_
  refine lv_iload_n hx hb d_law_271 rfl (lv_at hl 3 rfl) ?_
  refine lv_iconst (v := 1) hx hb d_law_272 (by decide) ?_
  refine lv_iadd hx hb d_law_273 ?_
  refine va_sld hx hb hX hbl hbA hI.2.2 (hin 1 (by decide)) d_law_274 ?_
  refine lv_aload_n hx hb d_law_275 rfl (lv_at hl 0 rfl) ?_
  refine lv_iload_n hx hb d_law_276 rfl (lv_at hl 3 rfl) ?_
  refine lv_iconst (v := 2) hx hb d_law_277 (by decide) ?_
  refine lv_iadd hx hb d_law_278 ?_
  refine va_sld hx hb hX hbl hbA hI.2.2 (hin 2 (by decide)) d_law_279 ?_
  refine fh_callV (As := [.int (xs (nI i + 1).toNatClampNeg), .int (xs (nI i + 2).toNatClampNeg)]) (rest := [.int v]) S fT_good (hE.nw nw_sub) hI (oi_o e3) rfl (c_Mo_draw e2) fy_Mo_draw fst_Mo_draw k_743 ⟨rfl, rfl⟩ ⟨Nat.le_of_ble_eq_true rfl, Nat.le_of_ble_eq_true rfl⟩ ⟨Nat.le_of_ble_eq_true rfl, Nat.le_of_ble_eq_true rfl⟩ rfl hl.1 rfl (Nat.le_of_ble_eq_true rfl) d_law_280 (fun H locs hI => ?_)
  refine lv_icmp_eq (tgt := 652) hx hb d_law_283 (by decide) (fun _ => ?_) (fun z => absurd rfl z)
  exact kk h2 S' M' _ _ hLI2 hI
set_option maxHeartbeats 4000000 in
set_option maxRecDepth 100000 in
theorem law_count {p : Program} {l : Launch} {e : Env} {s : State} {m : MethodId} {below : List Frame} {meth : Method} {c : Code} {D : va_G} {K t : Nat → Nat} {b L : Nat} {xs : Nat → Int32} {L1 L2 : Nat → Nat → Nat} {h : fh_H} {S0 : CS} {M0 : MS} {H : Heap} {locs : List Loc} {ls : Array Slot} {i : Nat} {Q : State → Prop} (S : CallFix p m c code 4 s #[Value.ref b] fT "FactFinderLaw") (hE : fh_E D classes (tysK K) (tbT t) NWL2 (fun q => s.heap.size ≤ q) s) (hX : va_X b L xs s s.heap) (hbl : b < s.heap.size) (hL : L ≤ 4096) (hi : i + 8 ≤ L) (hLI : LWI K L1 L2 h S0 M0) (hI : fh_I D classes (fun q => s.heap.size ≤ q) s.heap h H locs) (hl : lv_has ls 4 [(0, .ref b), (1, va_rf (some (L1 0 0))), (2, va_rf (some (L2 0 0))), (3, .int (nI i))]) (kk : ∀ (h2 : fh_H) (S' : CS) (M' : MS) (H : Heap) (locs : List Loc), LWI K L1 L2 h2 S' M' → fh_I D classes (fun q => s.heap.size ≤ q) s.heap h2 H locs → W p l e room_1 s m #[Value.ref b] below meth c H locs 76 87639 Q (F0 m 652 ls [])) : W p l e room_1 s m #[Value.ref b] below meth c H locs 76 87639 Q (F0 m 288 ls []) := by
  obtain ⟨hx, hb, hml, hown, hts⟩ := id S
  have hbA : ¬ (fun q : Nat => s.heap.size ≤ q) b := Nat.not_le.mpr hbl
  have hin : ∀ k : Nat, k < 8 → vp_in (nI i + nI k) L := fun k hk => by rw [nI_add]; exact vp_in_nI (by omega) (by omega)
  obtain ⟨v, h1, h2, S', M', e1, e2, ⟨fs, e3⟩, hLI2⟩ := hLI.call (tF := t_FF_count 2000 (xs (nI i + 1).toNatClampNeg) S0) (tM := t_Mo_count 2000 (xs (nI i + 1).toNatClampNeg) M0) (fun h => f_FF_count K 2000 (L1 0 0) (xs (nI i + 1).toNatClampNeg) h) (fun h => f_Mo_count K 2000 (L2 0 0) (xs (nI i + 1).toNatClampNeg) h) (call_count (Nat.le_refl _) hLI.2.2.2.2.2) (fun res ht => u_FF_count hLI.1 ht hLI.2.2.2.1) (fun h1 res hW ht => u_Mo_count hLI.2.1 ht hW)
  replace e1 : f_FF_count K 2000 (L1 0 0) (xs (nI i + 1).toNatClampNeg) h = some (v, h1) := e1
  replace e2 : f_Mo_count K 2000 (L2 0 0) (xs (nI i + 1).toNatClampNeg) h1 = some (v, h2) := e2
  refine fh_aload_n S d_law_288 rfl (lv_at hl 1 rfl) ?_
  refine lv_aload_n hx hb d_law_289 rfl (lv_at hl 0 rfl) ?_
  refine lv_iload_n hx hb d_law_290 rfl (lv_at hl 3 rfl) ?_
  refine lv_iconst (v := 1) hx hb d_law_291 (by decide) ?_
  refine lv_iadd hx hb d_law_292 ?_
  refine va_sld hx hb hX hbl hbA hI.2.2 (hin 1 (by decide)) d_law_293 ?_
  refine fh_callV (As := [.int (xs (nI i + 1).toNatClampNeg)]) (rest := []) S fT_good (hE.nw nw_sub) hI (oi_o (hLI.2.2.2.1.1 0 0 (by decide))) rfl (c_FF_count e1) fy_FF_count fst_FF_count k_725 ⟨rfl, rfl⟩ ⟨Nat.le_of_ble_eq_true rfl, Nat.le_of_ble_eq_true rfl⟩ ⟨Nat.le_of_ble_eq_true rfl, Nat.le_of_ble_eq_true rfl⟩ rfl hl.1 rfl (Nat.le_of_ble_eq_true rfl) d_law_294 (fun H locs hI => ?_)
  refine fh_aload_n S d_law_297 rfl (lv_at hl 2 rfl) ?_
  refine lv_aload_n hx hb d_law_298 rfl (lv_at hl 0 rfl) ?_
  refine lv_iload_n hx hb d_law_299 rfl (lv_at hl 3 rfl) ?_
  refine lv_iconst (v := 1) hx hb d_law_300 (by decide) ?_
  refine lv_iadd hx hb d_law_301 ?_
  refine va_sld hx hb hX hbl hbA hI.2.2 (hin 1 (by decide)) d_law_302 ?_
  refine fh_callV (As := [.int (xs (nI i + 1).toNatClampNeg)]) (rest := [.int v]) S fT_good (hE.nw nw_sub) hI (oi_o e3) rfl (c_Mo_count e2) fy_Mo_count fst_Mo_count k_744 ⟨rfl, rfl⟩ ⟨Nat.le_of_ble_eq_true rfl, Nat.le_of_ble_eq_true rfl⟩ ⟨Nat.le_of_ble_eq_true rfl, Nat.le_of_ble_eq_true rfl⟩ rfl hl.1 rfl (Nat.le_of_ble_eq_true rfl) d_law_303 (fun H locs hI => ?_)
  refine lv_icmp_eq (tgt := 652) hx hb d_law_306 (by decide) (fun _ => ?_) (fun z => absurd rfl z)
  exact kk h2 S' M' _ _ hLI2 hI
set_option maxHeartbeats 4000000 in
set_option maxRecDepth 100000 in
theorem law_told {p : Program} {l : Launch} {e : Env} {s : State} {m : MethodId} {below : List Frame} {meth : Method} {c : Code} {D : va_G} {K t : Nat → Nat} {b L : Nat} {xs : Nat → Int32} {L1 L2 : Nat → Nat → Nat} {h : fh_H} {S0 : CS} {M0 : MS} {H : Heap} {locs : List Loc} {ls : Array Slot} {i : Nat} {Q : State → Prop} (S : CallFix p m c code 4 s #[Value.ref b] fT "FactFinderLaw") (hE : fh_E D classes (tysK K) (tbT t) NWL2 (fun q => s.heap.size ≤ q) s) (hX : va_X b L xs s s.heap) (hbl : b < s.heap.size) (hL : L ≤ 4096) (hi : i + 8 ≤ L) (hLI : LWI K L1 L2 h S0 M0) (hI : fh_I D classes (fun q => s.heap.size ≤ q) s.heap h H locs) (hl : lv_has ls 4 [(0, .ref b), (1, va_rf (some (L1 0 0))), (2, va_rf (some (L2 0 0))), (3, .int (nI i))]) (kk : ∀ (h2 : fh_H) (S' : CS) (M' : MS) (H : Heap) (locs : List Loc), LWI K L1 L2 h2 S' M' → fh_I D classes (fun q => s.heap.size ≤ q) s.heap h2 H locs → W p l e room_1 s m #[Value.ref b] below meth c H locs 76 87639 Q (F0 m 652 ls [])) : W p l e room_1 s m #[Value.ref b] below meth c H locs 76 87639 Q (F0 m 311 ls []) := by
  obtain ⟨hx, hb, hml, hown, hts⟩ := id S
  have hbA : ¬ (fun q : Nat => s.heap.size ≤ q) b := Nat.not_le.mpr hbl
  have hin : ∀ k : Nat, k < 8 → vp_in (nI i + nI k) L := fun k hk => by rw [nI_add]; exact vp_in_nI (by omega) (by omega)
  obtain ⟨v, h1, h2, S', M', e1, e2, ⟨fs, e3⟩, hLI2⟩ := hLI.ask (tF := t_FF_told 2000 (xs (nI i + 1).toNatClampNeg) (xs (nI i + 2).toNatClampNeg) S0) (tM := t_Mo_told 2000 (xs (nI i + 1).toNatClampNeg) (xs (nI i + 2).toNatClampNeg) M0) (fun h => f_FF_told K 2000 (L1 0 0) (xs (nI i + 1).toNatClampNeg) (xs (nI i + 2).toNatClampNeg) h) (fun h => f_Mo_told K 2000 (L2 0 0) (xs (nI i + 1).toNatClampNeg) (xs (nI i + 2).toNatClampNeg) h) (call_told (Nat.le_refl _) hLI.2.2.2.2.2) (fun res ht => u_FF_told hLI.1 ht hLI.2.2.2.1) (fun res ht => u_Mo_told hLI.2.1 ht hLI.2.2.2.2.1)
  replace e1 : f_FF_told K 2000 (L1 0 0) (xs (nI i + 1).toNatClampNeg) (xs (nI i + 2).toNatClampNeg) h = some (v, h1) := e1
  replace e2 : f_Mo_told K 2000 (L2 0 0) (xs (nI i + 1).toNatClampNeg) (xs (nI i + 2).toNatClampNeg) h1 = some (v, h2) := e2
  refine fh_aload_n S d_law_311 rfl (lv_at hl 1 rfl) ?_
  refine lv_aload_n hx hb d_law_312 rfl (lv_at hl 0 rfl) ?_
  refine lv_iload_n hx hb d_law_313 rfl (lv_at hl 3 rfl) ?_
  refine lv_iconst (v := 1) hx hb d_law_314 (by decide) ?_
  refine lv_iadd hx hb d_law_315 ?_
  refine va_sld hx hb hX hbl hbA hI.2.2 (hin 1 (by decide)) d_law_316 ?_
  refine lv_aload_n hx hb d_law_317 rfl (lv_at hl 0 rfl) ?_
  refine lv_iload_n hx hb d_law_318 rfl (lv_at hl 3 rfl) ?_
  refine lv_iconst (v := 2) hx hb d_law_319 (by decide) ?_
  refine lv_iadd hx hb d_law_320 ?_
  refine va_sld hx hb hX hbl hbA hI.2.2 (hin 2 (by decide)) d_law_321 ?_
  refine fh_callV (As := [.int (xs (nI i + 1).toNatClampNeg), .int (xs (nI i + 2).toNatClampNeg)]) (rest := []) S fT_good (hE.nw nw_sub) hI (oi_o (hLI.2.2.2.1.1 0 0 (by decide))) rfl (c_FF_told e1) fy_FF_told fst_FF_told k_726 ⟨rfl, rfl⟩ ⟨Nat.le_of_ble_eq_true rfl, Nat.le_of_ble_eq_true rfl⟩ ⟨Nat.le_of_ble_eq_true rfl, Nat.le_of_ble_eq_true rfl⟩ rfl hl.1 rfl (Nat.le_of_ble_eq_true rfl) d_law_322 (fun H locs hI => ?_)
  refine fh_aload_n S d_law_325 rfl (lv_at hl 2 rfl) ?_
  refine lv_aload_n hx hb d_law_326 rfl (lv_at hl 0 rfl) ?_
  refine lv_iload_n hx hb d_law_327 rfl (lv_at hl 3 rfl) ?_
  refine lv_iconst (v := 1) hx hb d_law_328 (by decide) ?_
  refine lv_iadd hx hb d_law_329 ?_
  refine va_sld hx hb hX hbl hbA hI.2.2 (hin 1 (by decide)) d_law_330 ?_
  refine lv_aload_n hx hb d_law_331 rfl (lv_at hl 0 rfl) ?_
  refine lv_iload_n hx hb d_law_332 rfl (lv_at hl 3 rfl) ?_
  refine lv_iconst (v := 2) hx hb d_law_333 (by decide) ?_
  refine lv_iadd hx hb d_law_334 ?_
  refine va_sld hx hb hX hbl hbA hI.2.2 (hin 2 (by decide)) d_law_335 ?_
  refine fh_callV (As := [.int (xs (nI i + 1).toNatClampNeg), .int (xs (nI i + 2).toNatClampNeg)]) (rest := [.int v]) S fT_good (hE.nw nw_sub) hI (oi_o e3) rfl (c_Mo_told e2) fy_Mo_told fst_Mo_told k_745 ⟨rfl, rfl⟩ ⟨Nat.le_of_ble_eq_true rfl, Nat.le_of_ble_eq_true rfl⟩ ⟨Nat.le_of_ble_eq_true rfl, Nat.le_of_ble_eq_true rfl⟩ rfl hl.1 rfl (Nat.le_of_ble_eq_true rfl) d_law_336 (fun H locs hI => ?_)
  refine lv_icmp_eq (tgt := 652) hx hb d_law_339 (by decide) (fun _ => ?_) (fun z => absurd rfl z)
  exact kk h2 S' M' _ _ hLI2 hI
set_option maxHeartbeats 4000000 in
set_option maxRecDepth 100000 in
theorem law_falls {p : Program} {l : Launch} {e : Env} {s : State} {m : MethodId} {below : List Frame} {meth : Method} {c : Code} {D : va_G} {K t : Nat → Nat} {b L : Nat} {xs : Nat → Int32} {L1 L2 : Nat → Nat → Nat} {h : fh_H} {S0 : CS} {M0 : MS} {H : Heap} {locs : List Loc} {ls : Array Slot} {i : Nat} {Q : State → Prop} (S : CallFix p m c code 4 s #[Value.ref b] fT "FactFinderLaw") (hE : fh_E D classes (tysK K) (tbT t) NWL2 (fun q => s.heap.size ≤ q) s) (hX : va_X b L xs s s.heap) (hbl : b < s.heap.size) (hL : L ≤ 4096) (hi : i + 8 ≤ L) (hLI : LWI K L1 L2 h S0 M0) (hI : fh_I D classes (fun q => s.heap.size ≤ q) s.heap h H locs) (hl : lv_has ls 4 [(0, .ref b), (1, va_rf (some (L1 0 0))), (2, va_rf (some (L2 0 0))), (3, .int (nI i))]) (kk : ∀ (h2 : fh_H) (S' : CS) (M' : MS) (H : Heap) (locs : List Loc), LWI K L1 L2 h2 S' M' → fh_I D classes (fun q => s.heap.size ≤ q) s.heap h2 H locs → W p l e room_1 s m #[Value.ref b] below meth c H locs 76 87639 Q (F0 m 652 ls [])) : W p l e room_1 s m #[Value.ref b] below meth c H locs 76 87639 Q (F0 m 344 ls []) := by
  obtain ⟨hx, hb, hml, hown, hts⟩ := id S
  have hbA : ¬ (fun q : Nat => s.heap.size ≤ q) b := Nat.not_le.mpr hbl
  have hin : ∀ k : Nat, k < 8 → vp_in (nI i + nI k) L := fun k hk => by rw [nI_add]; exact vp_in_nI (by omega) (by omega)
  obtain ⟨v, h1, h2, S', M', e1, e2, ⟨fs, e3⟩, hLI2⟩ := hLI.ask (tF := t_FF_falls 2000 (xs (nI i + 1).toNatClampNeg) S0) (tM := t_Mo_falls 2000 (xs (nI i + 1).toNatClampNeg) M0) (fun h => f_FF_falls K 2000 (L1 0 0) (xs (nI i + 1).toNatClampNeg) h) (fun h => f_Mo_falls K 2000 (L2 0 0) (xs (nI i + 1).toNatClampNeg) h) (call_falls (Nat.le_refl _) hLI.2.2.2.2.2) (fun res ht => u_FF_falls hLI.1 ht hLI.2.2.2.1) (fun res ht => u_Mo_falls hLI.2.1 ht hLI.2.2.2.2.1)
  replace e1 : f_FF_falls K 2000 (L1 0 0) (xs (nI i + 1).toNatClampNeg) h = some (v, h1) := e1
  replace e2 : f_Mo_falls K 2000 (L2 0 0) (xs (nI i + 1).toNatClampNeg) h1 = some (v, h2) := e2
  refine fh_aload_n S d_law_344 rfl (lv_at hl 1 rfl) ?_
  refine lv_aload_n hx hb d_law_345 rfl (lv_at hl 0 rfl) ?_
  refine lv_iload_n hx hb d_law_346 rfl (lv_at hl 3 rfl) ?_
  refine lv_iconst (v := 1) hx hb d_law_347 (by decide) ?_
  refine lv_iadd hx hb d_law_348 ?_
  refine va_sld hx hb hX hbl hbA hI.2.2 (hin 1 (by decide)) d_law_349 ?_
  refine fh_callV (As := [.int (xs (nI i + 1).toNatClampNeg)]) (rest := []) S fT_good (hE.nw nw_sub) hI (oi_o (hLI.2.2.2.1.1 0 0 (by decide))) rfl (c_FF_falls e1) fy_FF_falls fst_FF_falls k_727 ⟨rfl, rfl⟩ ⟨Nat.le_of_ble_eq_true rfl, Nat.le_of_ble_eq_true rfl⟩ ⟨Nat.le_of_ble_eq_true rfl, Nat.le_of_ble_eq_true rfl⟩ rfl hl.1 rfl (Nat.le_of_ble_eq_true rfl) d_law_350 (fun H locs hI => ?_)
  refine fh_aload_n S d_law_353 rfl (lv_at hl 2 rfl) ?_
  refine lv_aload_n hx hb d_law_354 rfl (lv_at hl 0 rfl) ?_
  refine lv_iload_n hx hb d_law_355 rfl (lv_at hl 3 rfl) ?_
  refine lv_iconst (v := 1) hx hb d_law_356 (by decide) ?_
  refine lv_iadd hx hb d_law_357 ?_
  refine va_sld hx hb hX hbl hbA hI.2.2 (hin 1 (by decide)) d_law_358 ?_
  refine fh_callV (As := [.int (xs (nI i + 1).toNatClampNeg)]) (rest := [.int v]) S fT_good (hE.nw nw_sub) hI (oi_o e3) rfl (c_Mo_falls e2) fy_Mo_falls fst_Mo_falls k_746 ⟨rfl, rfl⟩ ⟨Nat.le_of_ble_eq_true rfl, Nat.le_of_ble_eq_true rfl⟩ ⟨Nat.le_of_ble_eq_true rfl, Nat.le_of_ble_eq_true rfl⟩ rfl hl.1 rfl (Nat.le_of_ble_eq_true rfl) d_law_359 (fun H locs hI => ?_)
  refine lv_icmp_eq (tgt := 652) hx hb d_law_362 (by decide) (fun _ => ?_) (fun z => absurd rfl z)
  exact kk h2 S' M' _ _ hLI2 hI
set_option maxHeartbeats 4000000 in
set_option maxRecDepth 100000 in
theorem law_place {p : Program} {l : Launch} {e : Env} {s : State} {m : MethodId} {below : List Frame} {meth : Method} {c : Code} {D : va_G} {K t : Nat → Nat} {b L : Nat} {xs : Nat → Int32} {L1 L2 : Nat → Nat → Nat} {h : fh_H} {S0 : CS} {M0 : MS} {H : Heap} {locs : List Loc} {ls : Array Slot} {i : Nat} {Q : State → Prop} (S : CallFix p m c code 4 s #[Value.ref b] fT "FactFinderLaw") (hE : fh_E D classes (tysK K) (tbT t) NWL2 (fun q => s.heap.size ≤ q) s) (hX : va_X b L xs s s.heap) (hbl : b < s.heap.size) (hL : L ≤ 4096) (hi : i + 8 ≤ L) (hLI : LWI K L1 L2 h S0 M0) (hI : fh_I D classes (fun q => s.heap.size ≤ q) s.heap h H locs) (hl : lv_has ls 4 [(0, .ref b), (1, va_rf (some (L1 0 0))), (2, va_rf (some (L2 0 0))), (3, .int (nI i))]) (kk : ∀ (h2 : fh_H) (S' : CS) (M' : MS) (H : Heap) (locs : List Loc), LWI K L1 L2 h2 S' M' → fh_I D classes (fun q => s.heap.size ≤ q) s.heap h2 H locs → W p l e room_1 s m #[Value.ref b] below meth c H locs 76 87639 Q (F0 m 652 ls [])) : W p l e room_1 s m #[Value.ref b] below meth c H locs 76 87639 Q (F0 m 367 ls []) := by
  obtain ⟨hx, hb, hml, hown, hts⟩ := id S
  have hbA : ¬ (fun q : Nat => s.heap.size ≤ q) b := Nat.not_le.mpr hbl
  have hin : ∀ k : Nat, k < 8 → vp_in (nI i + nI k) L := fun k hk => by rw [nI_add]; exact vp_in_nI (by omega) (by omega)
  obtain ⟨v, h1, h2, S', M', e1, e2, ⟨fs, e3⟩, hLI2⟩ := hLI.ask (tF := t_FF_place 2000 (xs (nI i + 1).toNatClampNeg) (xs (nI i + 2).toNatClampNeg) (xs (nI i + 3).toNatClampNeg) S0) (tM := t_Mo_place 2000 (xs (nI i + 1).toNatClampNeg) (xs (nI i + 2).toNatClampNeg) (xs (nI i + 3).toNatClampNeg) M0) (fun h => f_FF_place K 2000 (L1 0 0) (xs (nI i + 1).toNatClampNeg) (xs (nI i + 2).toNatClampNeg) (xs (nI i + 3).toNatClampNeg) h) (fun h => f_Mo_place K 2000 (L2 0 0) (xs (nI i + 1).toNatClampNeg) (xs (nI i + 2).toNatClampNeg) (xs (nI i + 3).toNatClampNeg) h) (call_place (Nat.le_refl _) hLI.2.2.2.2.2) (fun res ht => u_FF_place hLI.1 ht hLI.2.2.2.1) (fun res ht => u_Mo_place hLI.2.1 ht hLI.2.2.2.2.1)
  replace e1 : f_FF_place K 2000 (L1 0 0) (xs (nI i + 1).toNatClampNeg) (xs (nI i + 2).toNatClampNeg) (xs (nI i + 3).toNatClampNeg) h = some (v, h1) := e1
  replace e2 : f_Mo_place K 2000 (L2 0 0) (xs (nI i + 1).toNatClampNeg) (xs (nI i + 2).toNatClampNeg) (xs (nI i + 3).toNatClampNeg) h1 = some (v, h2) := e2
  refine fh_aload_n S d_law_367 rfl (lv_at hl 1 rfl) ?_
  refine lv_aload_n hx hb d_law_368 rfl (lv_at hl 0 rfl) ?_
  refine lv_iload_n hx hb d_law_369 rfl (lv_at hl 3 rfl) ?_
  refine lv_iconst (v := 1) hx hb d_law_370 (by decide) ?_
  refine lv_iadd hx hb d_law_371 ?_
  refine va_sld hx hb hX hbl hbA hI.2.2 (hin 1 (by decide)) d_law_372 ?_
  refine lv_aload_n hx hb d_law_373 rfl (lv_at hl 0 rfl) ?_
  refine lv_iload_n hx hb d_law_374 rfl (lv_at hl 3 rfl) ?_
  refine lv_iconst (v := 2) hx hb d_law_375 (by decide) ?_
  refine lv_iadd hx hb d_law_376 ?_
  refine va_sld hx hb hX hbl hbA hI.2.2 (hin 2 (by decide)) d_law_377 ?_
  refine lv_aload_n hx hb d_law_378 rfl (lv_at hl 0 rfl) ?_
  refine lv_iload_n hx hb d_law_379 rfl (lv_at hl 3 rfl) ?_
  refine lv_iconst (v := 3) hx hb d_law_380 (by decide) ?_
  refine lv_iadd hx hb d_law_381 ?_
  refine va_sld hx hb hX hbl hbA hI.2.2 (hin 3 (by decide)) d_law_382 ?_
  refine fh_callV (As := [.int (xs (nI i + 1).toNatClampNeg), .int (xs (nI i + 2).toNatClampNeg), .int (xs (nI i + 3).toNatClampNeg)]) (rest := []) S fT_good (hE.nw nw_sub) hI (oi_o (hLI.2.2.2.1.1 0 0 (by decide))) rfl (c_FF_place e1) fy_FF_place fst_FF_place k_728 ⟨rfl, rfl⟩ ⟨Nat.le_of_ble_eq_true rfl, Nat.le_of_ble_eq_true rfl⟩ ⟨Nat.le_of_ble_eq_true rfl, Nat.le_of_ble_eq_true rfl⟩ rfl hl.1 rfl (Nat.le_of_ble_eq_true rfl) d_law_383 (fun H locs hI => ?_)
  refine fh_aload_n S d_law_386 rfl (lv_at hl 2 rfl) ?_
  refine lv_aload_n hx hb d_law_387 rfl (lv_at hl 0 rfl) ?_
  refine lv_iload_n hx hb d_law_388 rfl (lv_at hl 3 rfl) ?_
  refine lv_iconst (v := 1) hx hb d_law_389 (by decide) ?_
  refine lv_iadd hx hb d_law_390 ?_
  refine va_sld hx hb hX hbl hbA hI.2.2 (hin 1 (by decide)) d_law_391 ?_
  refine lv_aload_n hx hb d_law_392 rfl (lv_at hl 0 rfl) ?_
  refine lv_iload_n hx hb d_law_393 rfl (lv_at hl 3 rfl) ?_
  refine lv_iconst (v := 2) hx hb d_law_394 (by decide) ?_
  refine lv_iadd hx hb d_law_395 ?_
  refine va_sld hx hb hX hbl hbA hI.2.2 (hin 2 (by decide)) d_law_396 ?_
  refine lv_aload_n hx hb d_law_397 rfl (lv_at hl 0 rfl) ?_
  refine lv_iload_n hx hb d_law_398 rfl (lv_at hl 3 rfl) ?_
  refine lv_iconst (v := 3) hx hb d_law_399 (by decide) ?_
  refine lv_iadd hx hb d_law_400 ?_
  refine va_sld hx hb hX hbl hbA hI.2.2 (hin 3 (by decide)) d_law_401 ?_
  refine fh_callV (As := [.int (xs (nI i + 1).toNatClampNeg), .int (xs (nI i + 2).toNatClampNeg), .int (xs (nI i + 3).toNatClampNeg)]) (rest := [.int v]) S fT_good (hE.nw nw_sub) hI (oi_o e3) rfl (c_Mo_place e2) fy_Mo_place fst_Mo_place k_747 ⟨rfl, rfl⟩ ⟨Nat.le_of_ble_eq_true rfl, Nat.le_of_ble_eq_true rfl⟩ ⟨Nat.le_of_ble_eq_true rfl, Nat.le_of_ble_eq_true rfl⟩ rfl hl.1 rfl (Nat.le_of_ble_eq_true rfl) d_law_402 (fun H locs hI => ?_)
  refine lv_icmp_eq (tgt := 652) hx hb d_law_405 (by decide) (fun _ => ?_) (fun z => absurd rfl z)
  exact kk h2 S' M' _ _ hLI2 hI
set_option maxHeartbeats 4000000 in
set_option maxRecDepth 100000 in
theorem law_holds {p : Program} {l : Launch} {e : Env} {s : State} {m : MethodId} {below : List Frame} {meth : Method} {c : Code} {D : va_G} {K t : Nat → Nat} {b L : Nat} {xs : Nat → Int32} {L1 L2 : Nat → Nat → Nat} {h : fh_H} {S0 : CS} {M0 : MS} {H : Heap} {locs : List Loc} {ls : Array Slot} {i : Nat} {Q : State → Prop} (S : CallFix p m c code 4 s #[Value.ref b] fT "FactFinderLaw") (hE : fh_E D classes (tysK K) (tbT t) NWL2 (fun q => s.heap.size ≤ q) s) (hX : va_X b L xs s s.heap) (hbl : b < s.heap.size) (hL : L ≤ 4096) (hi : i + 8 ≤ L) (hLI : LWI K L1 L2 h S0 M0) (hI : fh_I D classes (fun q => s.heap.size ≤ q) s.heap h H locs) (hl : lv_has ls 4 [(0, .ref b), (1, va_rf (some (L1 0 0))), (2, va_rf (some (L2 0 0))), (3, .int (nI i))]) (kk : ∀ (h2 : fh_H) (S' : CS) (M' : MS) (H : Heap) (locs : List Loc), LWI K L1 L2 h2 S' M' → fh_I D classes (fun q => s.heap.size ≤ q) s.heap h2 H locs → W p l e room_1 s m #[Value.ref b] below meth c H locs 76 87639 Q (F0 m 652 ls [])) : W p l e room_1 s m #[Value.ref b] below meth c H locs 76 87639 Q (F0 m 410 ls []) := by
  obtain ⟨hx, hb, hml, hown, hts⟩ := id S
  have hbA : ¬ (fun q : Nat => s.heap.size ≤ q) b := Nat.not_le.mpr hbl
  have hin : ∀ k : Nat, k < 8 → vp_in (nI i + nI k) L := fun k hk => by rw [nI_add]; exact vp_in_nI (by omega) (by omega)
  obtain ⟨v, h1, h2, S', M', e1, e2, ⟨fs, e3⟩, hLI2⟩ := hLI.call (tF := t_FF_holds 2000 (xs (nI i + 1).toNatClampNeg) (xs (nI i + 2).toNatClampNeg) (xs (nI i + 3).toNatClampNeg) (xs (nI i + 4).toNatClampNeg) (xs (nI i + 5).toNatClampNeg) (xs (nI i + 6).toNatClampNeg) (xs (nI i + 7).toNatClampNeg) S0) (tM := t_Mo_holds 2000 (xs (nI i + 1).toNatClampNeg) (xs (nI i + 2).toNatClampNeg) (xs (nI i + 3).toNatClampNeg) (xs (nI i + 4).toNatClampNeg) (xs (nI i + 5).toNatClampNeg) (xs (nI i + 6).toNatClampNeg) (xs (nI i + 7).toNatClampNeg) M0) (fun h => f_FF_holds K 2000 (L1 0 0) (xs (nI i + 1).toNatClampNeg) (xs (nI i + 2).toNatClampNeg) (xs (nI i + 3).toNatClampNeg) (xs (nI i + 4).toNatClampNeg) (xs (nI i + 5).toNatClampNeg) (xs (nI i + 6).toNatClampNeg) (xs (nI i + 7).toNatClampNeg) h) (fun h => f_Mo_holds K 2000 (L2 0 0) (xs (nI i + 1).toNatClampNeg) (xs (nI i + 2).toNatClampNeg) (xs (nI i + 3).toNatClampNeg) (xs (nI i + 4).toNatClampNeg) (xs (nI i + 5).toNatClampNeg) (xs (nI i + 6).toNatClampNeg) (xs (nI i + 7).toNatClampNeg) h) (call_holds (Nat.le_refl _) hLI.2.2.2.2.2) (fun res ht => u_FF_holds hLI.1 ht hLI.2.2.2.1) (fun h1 res hW ht => u_Mo_holds hLI.2.1 ht hW)
  replace e1 : f_FF_holds K 2000 (L1 0 0) (xs (nI i + 1).toNatClampNeg) (xs (nI i + 2).toNatClampNeg) (xs (nI i + 3).toNatClampNeg) (xs (nI i + 4).toNatClampNeg) (xs (nI i + 5).toNatClampNeg) (xs (nI i + 6).toNatClampNeg) (xs (nI i + 7).toNatClampNeg) h = some (v, h1) := e1
  replace e2 : f_Mo_holds K 2000 (L2 0 0) (xs (nI i + 1).toNatClampNeg) (xs (nI i + 2).toNatClampNeg) (xs (nI i + 3).toNatClampNeg) (xs (nI i + 4).toNatClampNeg) (xs (nI i + 5).toNatClampNeg) (xs (nI i + 6).toNatClampNeg) (xs (nI i + 7).toNatClampNeg) h1 = some (v, h2) := e2
  refine fh_aload_n S d_law_410 rfl (lv_at hl 1 rfl) ?_
  refine lv_aload_n hx hb d_law_411 rfl (lv_at hl 0 rfl) ?_
  refine lv_iload_n hx hb d_law_412 rfl (lv_at hl 3 rfl) ?_
  refine lv_iconst (v := 1) hx hb d_law_413 (by decide) ?_
  refine lv_iadd hx hb d_law_414 ?_
  refine va_sld hx hb hX hbl hbA hI.2.2 (hin 1 (by decide)) d_law_415 ?_
  refine lv_aload_n hx hb d_law_416 rfl (lv_at hl 0 rfl) ?_
  refine lv_iload_n hx hb d_law_417 rfl (lv_at hl 3 rfl) ?_
  refine lv_iconst (v := 2) hx hb d_law_418 (by decide) ?_
  refine lv_iadd hx hb d_law_419 ?_
  refine va_sld hx hb hX hbl hbA hI.2.2 (hin 2 (by decide)) d_law_420 ?_
  refine lv_aload_n hx hb d_law_421 rfl (lv_at hl 0 rfl) ?_
  refine lv_iload_n hx hb d_law_422 rfl (lv_at hl 3 rfl) ?_
  refine lv_iconst (v := 3) hx hb d_law_423 (by decide) ?_
  refine lv_iadd hx hb d_law_424 ?_
  refine va_sld hx hb hX hbl hbA hI.2.2 (hin 3 (by decide)) d_law_425 ?_
  refine lv_aload_n hx hb d_law_426 rfl (lv_at hl 0 rfl) ?_
  refine lv_iload_n hx hb d_law_427 rfl (lv_at hl 3 rfl) ?_
  refine lv_iconst (v := 4) hx hb d_law_428 (by decide) ?_
  refine lv_iadd hx hb d_law_429 ?_
  refine va_sld hx hb hX hbl hbA hI.2.2 (hin 4 (by decide)) d_law_430 ?_
  refine lv_aload_n hx hb d_law_431 rfl (lv_at hl 0 rfl) ?_
  refine lv_iload_n hx hb d_law_432 rfl (lv_at hl 3 rfl) ?_
  refine lv_iconst (v := 5) hx hb d_law_433 (by decide) ?_
  refine lv_iadd hx hb d_law_434 ?_
  refine va_sld hx hb hX hbl hbA hI.2.2 (hin 5 (by decide)) d_law_435 ?_
  refine lv_aload_n hx hb d_law_436 rfl (lv_at hl 0 rfl) ?_
  refine lv_iload_n hx hb d_law_437 rfl (lv_at hl 3 rfl) ?_
  refine lv_bipush (v := 6) hx hb d_law_438 (by decide) ?_
  refine lv_iadd hx hb d_law_440 ?_
  refine va_sld hx hb hX hbl hbA hI.2.2 (hin 6 (by decide)) d_law_441 ?_
  refine lv_aload_n hx hb d_law_442 rfl (lv_at hl 0 rfl) ?_
  refine lv_iload_n hx hb d_law_443 rfl (lv_at hl 3 rfl) ?_
  refine lv_bipush (v := 7) hx hb d_law_444 (by decide) ?_
  refine lv_iadd hx hb d_law_446 ?_
  refine va_sld hx hb hX hbl hbA hI.2.2 (hin 7 (by decide)) d_law_447 ?_
  refine fh_callV (As := [.int (xs (nI i + 1).toNatClampNeg), .int (xs (nI i + 2).toNatClampNeg), .int (xs (nI i + 3).toNatClampNeg), .int (xs (nI i + 4).toNatClampNeg), .int (xs (nI i + 5).toNatClampNeg), .int (xs (nI i + 6).toNatClampNeg), .int (xs (nI i + 7).toNatClampNeg)]) (rest := []) S fT_good (hE.nw nw_sub) hI (oi_o (hLI.2.2.2.1.1 0 0 (by decide))) rfl (c_FF_holds e1) fy_FF_holds fst_FF_holds k_729 ⟨rfl, rfl⟩ ⟨Nat.le_of_ble_eq_true rfl, Nat.le_of_ble_eq_true rfl⟩ ⟨Nat.le_of_ble_eq_true rfl, Nat.le_of_ble_eq_true rfl⟩ rfl hl.1 rfl (Nat.le_of_ble_eq_true rfl) d_law_448 (fun H locs hI => ?_)
  refine fh_aload_n S d_law_451 rfl (lv_at hl 2 rfl) ?_
  refine lv_aload_n hx hb d_law_452 rfl (lv_at hl 0 rfl) ?_
  refine lv_iload_n hx hb d_law_453 rfl (lv_at hl 3 rfl) ?_
  refine lv_iconst (v := 1) hx hb d_law_454 (by decide) ?_
  refine lv_iadd hx hb d_law_455 ?_
  refine va_sld hx hb hX hbl hbA hI.2.2 (hin 1 (by decide)) d_law_456 ?_
  refine lv_aload_n hx hb d_law_457 rfl (lv_at hl 0 rfl) ?_
  refine lv_iload_n hx hb d_law_458 rfl (lv_at hl 3 rfl) ?_
  refine lv_iconst (v := 2) hx hb d_law_459 (by decide) ?_
  refine lv_iadd hx hb d_law_460 ?_
  refine va_sld hx hb hX hbl hbA hI.2.2 (hin 2 (by decide)) d_law_461 ?_
  refine lv_aload_n hx hb d_law_462 rfl (lv_at hl 0 rfl) ?_
  refine lv_iload_n hx hb d_law_463 rfl (lv_at hl 3 rfl) ?_
  refine lv_iconst (v := 3) hx hb d_law_464 (by decide) ?_
  refine lv_iadd hx hb d_law_465 ?_
  refine va_sld hx hb hX hbl hbA hI.2.2 (hin 3 (by decide)) d_law_466 ?_
  refine lv_aload_n hx hb d_law_467 rfl (lv_at hl 0 rfl) ?_
  refine lv_iload_n hx hb d_law_468 rfl (lv_at hl 3 rfl) ?_
  refine lv_iconst (v := 4) hx hb d_law_469 (by decide) ?_
  refine lv_iadd hx hb d_law_470 ?_
  refine va_sld hx hb hX hbl hbA hI.2.2 (hin 4 (by decide)) d_law_471 ?_
  refine lv_aload_n hx hb d_law_472 rfl (lv_at hl 0 rfl) ?_
  refine lv_iload_n hx hb d_law_473 rfl (lv_at hl 3 rfl) ?_
  refine lv_iconst (v := 5) hx hb d_law_474 (by decide) ?_
  refine lv_iadd hx hb d_law_475 ?_
  refine va_sld hx hb hX hbl hbA hI.2.2 (hin 5 (by decide)) d_law_476 ?_
  refine lv_aload_n hx hb d_law_477 rfl (lv_at hl 0 rfl) ?_
  refine lv_iload_n hx hb d_law_478 rfl (lv_at hl 3 rfl) ?_
  refine lv_bipush (v := 6) hx hb d_law_479 (by decide) ?_
  refine lv_iadd hx hb d_law_481 ?_
  refine va_sld hx hb hX hbl hbA hI.2.2 (hin 6 (by decide)) d_law_482 ?_
  refine lv_aload_n hx hb d_law_483 rfl (lv_at hl 0 rfl) ?_
  refine lv_iload_n hx hb d_law_484 rfl (lv_at hl 3 rfl) ?_
  refine lv_bipush (v := 7) hx hb d_law_485 (by decide) ?_
  refine lv_iadd hx hb d_law_487 ?_
  refine va_sld hx hb hX hbl hbA hI.2.2 (hin 7 (by decide)) d_law_488 ?_
  refine fh_callV (As := [.int (xs (nI i + 1).toNatClampNeg), .int (xs (nI i + 2).toNatClampNeg), .int (xs (nI i + 3).toNatClampNeg), .int (xs (nI i + 4).toNatClampNeg), .int (xs (nI i + 5).toNatClampNeg), .int (xs (nI i + 6).toNatClampNeg), .int (xs (nI i + 7).toNatClampNeg)]) (rest := [.int v]) S fT_good (hE.nw nw_sub) hI (oi_o e3) rfl (c_Mo_holds e2) fy_Mo_holds fst_Mo_holds k_748 ⟨rfl, rfl⟩ ⟨Nat.le_of_ble_eq_true rfl, Nat.le_of_ble_eq_true rfl⟩ ⟨Nat.le_of_ble_eq_true rfl, Nat.le_of_ble_eq_true rfl⟩ rfl hl.1 rfl (Nat.le_of_ble_eq_true rfl) d_law_489 (fun H locs hI => ?_)
  refine lv_icmp_eq (tgt := 652) hx hb d_law_492 (by decide) (fun _ => ?_) (fun z => absurd rfl z)
  exact kk h2 S' M' _ _ hLI2 hI
set_option maxHeartbeats 4000000 in
set_option maxRecDepth 100000 in
theorem law_facts {p : Program} {l : Launch} {e : Env} {s : State} {m : MethodId} {below : List Frame} {meth : Method} {c : Code} {D : va_G} {K t : Nat → Nat} {b L : Nat} {xs : Nat → Int32} {L1 L2 : Nat → Nat → Nat} {h : fh_H} {S0 : CS} {M0 : MS} {H : Heap} {locs : List Loc} {ls : Array Slot} {i : Nat} {Q : State → Prop} (S : CallFix p m c code 4 s #[Value.ref b] fT "FactFinderLaw") (hE : fh_E D classes (tysK K) (tbT t) NWL2 (fun q => s.heap.size ≤ q) s) (hX : va_X b L xs s s.heap) (hbl : b < s.heap.size) (hL : L ≤ 4096) (hi : i + 8 ≤ L) (hLI : LWI K L1 L2 h S0 M0) (hI : fh_I D classes (fun q => s.heap.size ≤ q) s.heap h H locs) (hl : lv_has ls 4 [(0, .ref b), (1, va_rf (some (L1 0 0))), (2, va_rf (some (L2 0 0))), (3, .int (nI i))]) (kk : ∀ (h2 : fh_H) (S' : CS) (M' : MS) (H : Heap) (locs : List Loc), LWI K L1 L2 h2 S' M' → fh_I D classes (fun q => s.heap.size ≤ q) s.heap h2 H locs → W p l e room_1 s m #[Value.ref b] below meth c H locs 76 87639 Q (F0 m 652 ls [])) : W p l e room_1 s m #[Value.ref b] below meth c H locs 76 87639 Q (F0 m 497 ls []) := by
  obtain ⟨hx, hb, hml, hown, hts⟩ := id S
  have hbA : ¬ (fun q : Nat => s.heap.size ≤ q) b := Nat.not_le.mpr hbl
  have hin : ∀ k : Nat, k < 8 → vp_in (nI i + nI k) L := fun k hk => by rw [nI_add]; exact vp_in_nI (by omega) (by omega)
  obtain ⟨v, h1, h2, S', M', e1, e2, ⟨fs, e3⟩, hLI2⟩ := hLI.call (tF := t_FF_facts 2000 (xs (nI i + 1).toNatClampNeg) S0) (tM := t_Mo_facts 2000 (xs (nI i + 1).toNatClampNeg) M0) (fun h => f_FF_facts K 2000 (L1 0 0) (xs (nI i + 1).toNatClampNeg) h) (fun h => f_Mo_facts K 2000 (L2 0 0) (xs (nI i + 1).toNatClampNeg) h) (call_facts (Nat.le_refl _) hLI.2.2.2.2.2) (fun res ht => u_FF_facts hLI.1 ht hLI.2.2.2.1) (fun h1 res hW ht => u_Mo_facts hLI.2.1 ht hW)
  replace e1 : f_FF_facts K 2000 (L1 0 0) (xs (nI i + 1).toNatClampNeg) h = some (v, h1) := e1
  replace e2 : f_Mo_facts K 2000 (L2 0 0) (xs (nI i + 1).toNatClampNeg) h1 = some (v, h2) := e2
  refine fh_aload_n S d_law_497 rfl (lv_at hl 1 rfl) ?_
  refine lv_aload_n hx hb d_law_498 rfl (lv_at hl 0 rfl) ?_
  refine lv_iload_n hx hb d_law_499 rfl (lv_at hl 3 rfl) ?_
  refine lv_iconst (v := 1) hx hb d_law_500 (by decide) ?_
  refine lv_iadd hx hb d_law_501 ?_
  refine va_sld hx hb hX hbl hbA hI.2.2 (hin 1 (by decide)) d_law_502 ?_
  refine fh_callV (As := [.int (xs (nI i + 1).toNatClampNeg)]) (rest := []) S fT_good (hE.nw nw_sub) hI (oi_o (hLI.2.2.2.1.1 0 0 (by decide))) rfl (c_FF_facts e1) fy_FF_facts fst_FF_facts k_730 ⟨rfl, rfl⟩ ⟨Nat.le_of_ble_eq_true rfl, Nat.le_of_ble_eq_true rfl⟩ ⟨Nat.le_of_ble_eq_true rfl, Nat.le_of_ble_eq_true rfl⟩ rfl hl.1 rfl (Nat.le_of_ble_eq_true rfl) d_law_503 (fun H locs hI => ?_)
  refine fh_aload_n S d_law_506 rfl (lv_at hl 2 rfl) ?_
  refine lv_aload_n hx hb d_law_507 rfl (lv_at hl 0 rfl) ?_
  refine lv_iload_n hx hb d_law_508 rfl (lv_at hl 3 rfl) ?_
  refine lv_iconst (v := 1) hx hb d_law_509 (by decide) ?_
  refine lv_iadd hx hb d_law_510 ?_
  refine va_sld hx hb hX hbl hbA hI.2.2 (hin 1 (by decide)) d_law_511 ?_
  refine fh_callV (As := [.int (xs (nI i + 1).toNatClampNeg)]) (rest := [.int v]) S fT_good (hE.nw nw_sub) hI (oi_o e3) rfl (c_Mo_facts e2) fy_Mo_facts fst_Mo_facts k_749 ⟨rfl, rfl⟩ ⟨Nat.le_of_ble_eq_true rfl, Nat.le_of_ble_eq_true rfl⟩ ⟨Nat.le_of_ble_eq_true rfl, Nat.le_of_ble_eq_true rfl⟩ rfl hl.1 rfl (Nat.le_of_ble_eq_true rfl) d_law_512 (fun H locs hI => ?_)
  refine lv_icmp_eq (tgt := 652) hx hb d_law_515 (by decide) (fun _ => ?_) (fun z => absurd rfl z)
  exact kk h2 S' M' _ _ hLI2 hI
set_option maxHeartbeats 4000000 in
set_option maxRecDepth 100000 in
theorem law_fact {p : Program} {l : Launch} {e : Env} {s : State} {m : MethodId} {below : List Frame} {meth : Method} {c : Code} {D : va_G} {K t : Nat → Nat} {b L : Nat} {xs : Nat → Int32} {L1 L2 : Nat → Nat → Nat} {h : fh_H} {S0 : CS} {M0 : MS} {H : Heap} {locs : List Loc} {ls : Array Slot} {i : Nat} {Q : State → Prop} (S : CallFix p m c code 4 s #[Value.ref b] fT "FactFinderLaw") (hE : fh_E D classes (tysK K) (tbT t) NWL2 (fun q => s.heap.size ≤ q) s) (hX : va_X b L xs s s.heap) (hbl : b < s.heap.size) (hL : L ≤ 4096) (hi : i + 8 ≤ L) (hLI : LWI K L1 L2 h S0 M0) (hI : fh_I D classes (fun q => s.heap.size ≤ q) s.heap h H locs) (hl : lv_has ls 4 [(0, .ref b), (1, va_rf (some (L1 0 0))), (2, va_rf (some (L2 0 0))), (3, .int (nI i))]) (kk : ∀ (h2 : fh_H) (S' : CS) (M' : MS) (H : Heap) (locs : List Loc), LWI K L1 L2 h2 S' M' → fh_I D classes (fun q => s.heap.size ≤ q) s.heap h2 H locs → W p l e room_1 s m #[Value.ref b] below meth c H locs 76 87639 Q (F0 m 652 ls [])) : W p l e room_1 s m #[Value.ref b] below meth c H locs 76 87639 Q (F0 m 520 ls []) := by
  obtain ⟨hx, hb, hml, hown, hts⟩ := id S
  have hbA : ¬ (fun q : Nat => s.heap.size ≤ q) b := Nat.not_le.mpr hbl
  have hin : ∀ k : Nat, k < 8 → vp_in (nI i + nI k) L := fun k hk => by rw [nI_add]; exact vp_in_nI (by omega) (by omega)
  obtain ⟨v, h1, h2, S', M', e1, e2, ⟨fs, e3⟩, hLI2⟩ := hLI.call (tF := t_FF_fact 2000 (xs (nI i + 1).toNatClampNeg) (xs (nI i + 2).toNatClampNeg) (xs (nI i + 3).toNatClampNeg) S0) (tM := t_Mo_fact 2000 (xs (nI i + 1).toNatClampNeg) (xs (nI i + 2).toNatClampNeg) (xs (nI i + 3).toNatClampNeg) M0) (fun h => f_FF_fact K 2000 (L1 0 0) (xs (nI i + 1).toNatClampNeg) (xs (nI i + 2).toNatClampNeg) (xs (nI i + 3).toNatClampNeg) h) (fun h => f_Mo_fact K 2000 (L2 0 0) (xs (nI i + 1).toNatClampNeg) (xs (nI i + 2).toNatClampNeg) (xs (nI i + 3).toNatClampNeg) h) (call_fact (Nat.le_refl _) hLI.2.2.2.2.2) (fun res ht => u_FF_fact hLI.1 ht hLI.2.2.2.1) (fun h1 res hW ht => u_Mo_fact hLI.2.1 ht hW)
  replace e1 : f_FF_fact K 2000 (L1 0 0) (xs (nI i + 1).toNatClampNeg) (xs (nI i + 2).toNatClampNeg) (xs (nI i + 3).toNatClampNeg) h = some (v, h1) := e1
  replace e2 : f_Mo_fact K 2000 (L2 0 0) (xs (nI i + 1).toNatClampNeg) (xs (nI i + 2).toNatClampNeg) (xs (nI i + 3).toNatClampNeg) h1 = some (v, h2) := e2
  refine fh_aload_n S d_law_520 rfl (lv_at hl 1 rfl) ?_
  refine lv_aload_n hx hb d_law_521 rfl (lv_at hl 0 rfl) ?_
  refine lv_iload_n hx hb d_law_522 rfl (lv_at hl 3 rfl) ?_
  refine lv_iconst (v := 1) hx hb d_law_523 (by decide) ?_
  refine lv_iadd hx hb d_law_524 ?_
  refine va_sld hx hb hX hbl hbA hI.2.2 (hin 1 (by decide)) d_law_525 ?_
  refine lv_aload_n hx hb d_law_526 rfl (lv_at hl 0 rfl) ?_
  refine lv_iload_n hx hb d_law_527 rfl (lv_at hl 3 rfl) ?_
  refine lv_iconst (v := 2) hx hb d_law_528 (by decide) ?_
  refine lv_iadd hx hb d_law_529 ?_
  refine va_sld hx hb hX hbl hbA hI.2.2 (hin 2 (by decide)) d_law_530 ?_
  refine lv_aload_n hx hb d_law_531 rfl (lv_at hl 0 rfl) ?_
  refine lv_iload_n hx hb d_law_532 rfl (lv_at hl 3 rfl) ?_
  refine lv_iconst (v := 3) hx hb d_law_533 (by decide) ?_
  refine lv_iadd hx hb d_law_534 ?_
  refine va_sld hx hb hX hbl hbA hI.2.2 (hin 3 (by decide)) d_law_535 ?_
  refine fh_callV (As := [.int (xs (nI i + 1).toNatClampNeg), .int (xs (nI i + 2).toNatClampNeg), .int (xs (nI i + 3).toNatClampNeg)]) (rest := []) S fT_good (hE.nw nw_sub) hI (oi_o (hLI.2.2.2.1.1 0 0 (by decide))) rfl (c_FF_fact e1) fy_FF_fact fst_FF_fact k_731 ⟨rfl, rfl⟩ ⟨Nat.le_of_ble_eq_true rfl, Nat.le_of_ble_eq_true rfl⟩ ⟨Nat.le_of_ble_eq_true rfl, Nat.le_of_ble_eq_true rfl⟩ rfl hl.1 rfl (Nat.le_of_ble_eq_true rfl) d_law_536 (fun H locs hI => ?_)
  refine fh_aload_n S d_law_539 rfl (lv_at hl 2 rfl) ?_
  refine lv_aload_n hx hb d_law_540 rfl (lv_at hl 0 rfl) ?_
  refine lv_iload_n hx hb d_law_541 rfl (lv_at hl 3 rfl) ?_
  refine lv_iconst (v := 1) hx hb d_law_542 (by decide) ?_
  refine lv_iadd hx hb d_law_543 ?_
  refine va_sld hx hb hX hbl hbA hI.2.2 (hin 1 (by decide)) d_law_544 ?_
  refine lv_aload_n hx hb d_law_545 rfl (lv_at hl 0 rfl) ?_
  refine lv_iload_n hx hb d_law_546 rfl (lv_at hl 3 rfl) ?_
  refine lv_iconst (v := 2) hx hb d_law_547 (by decide) ?_
  refine lv_iadd hx hb d_law_548 ?_
  refine va_sld hx hb hX hbl hbA hI.2.2 (hin 2 (by decide)) d_law_549 ?_
  refine lv_aload_n hx hb d_law_550 rfl (lv_at hl 0 rfl) ?_
  refine lv_iload_n hx hb d_law_551 rfl (lv_at hl 3 rfl) ?_
  refine lv_iconst (v := 3) hx hb d_law_552 (by decide) ?_
  refine lv_iadd hx hb d_law_553 ?_
  refine va_sld hx hb hX hbl hbA hI.2.2 (hin 3 (by decide)) d_law_554 ?_
  refine fh_callV (As := [.int (xs (nI i + 1).toNatClampNeg), .int (xs (nI i + 2).toNatClampNeg), .int (xs (nI i + 3).toNatClampNeg)]) (rest := [.int v]) S fT_good (hE.nw nw_sub) hI (oi_o e3) rfl (c_Mo_fact e2) fy_Mo_fact fst_Mo_fact k_750 ⟨rfl, rfl⟩ ⟨Nat.le_of_ble_eq_true rfl, Nat.le_of_ble_eq_true rfl⟩ ⟨Nat.le_of_ble_eq_true rfl, Nat.le_of_ble_eq_true rfl⟩ rfl hl.1 rfl (Nat.le_of_ble_eq_true rfl) d_law_555 (fun H locs hI => ?_)
  refine lv_icmp_eq (tgt := 652) hx hb d_law_558 (by decide) (fun _ => ?_) (fun z => absurd rfl z)
  exact kk h2 S' M' _ _ hLI2 hI
set_option maxHeartbeats 4000000 in
set_option maxRecDepth 100000 in
theorem law_needs {p : Program} {l : Launch} {e : Env} {s : State} {m : MethodId} {below : List Frame} {meth : Method} {c : Code} {D : va_G} {K t : Nat → Nat} {b L : Nat} {xs : Nat → Int32} {L1 L2 : Nat → Nat → Nat} {h : fh_H} {S0 : CS} {M0 : MS} {H : Heap} {locs : List Loc} {ls : Array Slot} {i : Nat} {Q : State → Prop} (S : CallFix p m c code 4 s #[Value.ref b] fT "FactFinderLaw") (hE : fh_E D classes (tysK K) (tbT t) NWL2 (fun q => s.heap.size ≤ q) s) (hX : va_X b L xs s s.heap) (hbl : b < s.heap.size) (hL : L ≤ 4096) (hi : i + 8 ≤ L) (hLI : LWI K L1 L2 h S0 M0) (hI : fh_I D classes (fun q => s.heap.size ≤ q) s.heap h H locs) (hl : lv_has ls 4 [(0, .ref b), (1, va_rf (some (L1 0 0))), (2, va_rf (some (L2 0 0))), (3, .int (nI i))]) (kk : ∀ (h2 : fh_H) (S' : CS) (M' : MS) (H : Heap) (locs : List Loc), LWI K L1 L2 h2 S' M' → fh_I D classes (fun q => s.heap.size ≤ q) s.heap h2 H locs → W p l e room_1 s m #[Value.ref b] below meth c H locs 76 87639 Q (F0 m 652 ls [])) : W p l e room_1 s m #[Value.ref b] below meth c H locs 76 87639 Q (F0 m 563 ls []) := by
  obtain ⟨hx, hb, hml, hown, hts⟩ := id S
  have hbA : ¬ (fun q : Nat => s.heap.size ≤ q) b := Nat.not_le.mpr hbl
  have hin : ∀ k : Nat, k < 8 → vp_in (nI i + nI k) L := fun k hk => by rw [nI_add]; exact vp_in_nI (by omega) (by omega)
  obtain ⟨v, h1, h2, S', M', e1, e2, ⟨fs, e3⟩, hLI2⟩ := hLI.call (tF := t_FF_needs 2000 (xs (nI i + 1).toNatClampNeg) (xs (nI i + 2).toNatClampNeg) (xs (nI i + 3).toNatClampNeg) S0) (tM := t_Mo_needs3 2000 (xs (nI i + 1).toNatClampNeg) (xs (nI i + 2).toNatClampNeg) (xs (nI i + 3).toNatClampNeg) M0) (fun h => f_FF_needs K 2000 (L1 0 0) (xs (nI i + 1).toNatClampNeg) (xs (nI i + 2).toNatClampNeg) (xs (nI i + 3).toNatClampNeg) h) (fun h => f_Mo_needs3 K 2000 (L2 0 0) (xs (nI i + 1).toNatClampNeg) (xs (nI i + 2).toNatClampNeg) (xs (nI i + 3).toNatClampNeg) h) (call_needs (Nat.le_refl _) hLI.2.2.2.2.2) (fun res ht => u_FF_needs hLI.1 ht hLI.2.2.2.1) (fun h1 res hW ht => u_Mo_needs3 hLI.2.1 ht hW)
  replace e1 : f_FF_needs K 2000 (L1 0 0) (xs (nI i + 1).toNatClampNeg) (xs (nI i + 2).toNatClampNeg) (xs (nI i + 3).toNatClampNeg) h = some (v, h1) := e1
  replace e2 : f_Mo_needs3 K 2000 (L2 0 0) (xs (nI i + 1).toNatClampNeg) (xs (nI i + 2).toNatClampNeg) (xs (nI i + 3).toNatClampNeg) h1 = some (v, h2) := e2
  refine fh_aload_n S d_law_563 rfl (lv_at hl 1 rfl) ?_
  refine lv_aload_n hx hb d_law_564 rfl (lv_at hl 0 rfl) ?_
  refine lv_iload_n hx hb d_law_565 rfl (lv_at hl 3 rfl) ?_
  refine lv_iconst (v := 1) hx hb d_law_566 (by decide) ?_
  refine lv_iadd hx hb d_law_567 ?_
  refine va_sld hx hb hX hbl hbA hI.2.2 (hin 1 (by decide)) d_law_568 ?_
  refine lv_aload_n hx hb d_law_569 rfl (lv_at hl 0 rfl) ?_
  refine lv_iload_n hx hb d_law_570 rfl (lv_at hl 3 rfl) ?_
  refine lv_iconst (v := 2) hx hb d_law_571 (by decide) ?_
  refine lv_iadd hx hb d_law_572 ?_
  refine va_sld hx hb hX hbl hbA hI.2.2 (hin 2 (by decide)) d_law_573 ?_
  refine lv_aload_n hx hb d_law_574 rfl (lv_at hl 0 rfl) ?_
  refine lv_iload_n hx hb d_law_575 rfl (lv_at hl 3 rfl) ?_
  refine lv_iconst (v := 3) hx hb d_law_576 (by decide) ?_
  refine lv_iadd hx hb d_law_577 ?_
  refine va_sld hx hb hX hbl hbA hI.2.2 (hin 3 (by decide)) d_law_578 ?_
  refine fh_callV (As := [.int (xs (nI i + 1).toNatClampNeg), .int (xs (nI i + 2).toNatClampNeg), .int (xs (nI i + 3).toNatClampNeg)]) (rest := []) S fT_good (hE.nw nw_sub) hI (oi_o (hLI.2.2.2.1.1 0 0 (by decide))) rfl (c_FF_needs e1) fy_FF_needs fst_FF_needs k_732 ⟨rfl, rfl⟩ ⟨Nat.le_of_ble_eq_true rfl, Nat.le_of_ble_eq_true rfl⟩ ⟨Nat.le_of_ble_eq_true rfl, Nat.le_of_ble_eq_true rfl⟩ rfl hl.1 rfl (Nat.le_of_ble_eq_true rfl) d_law_579 (fun H locs hI => ?_)
  refine fh_aload_n S d_law_582 rfl (lv_at hl 2 rfl) ?_
  refine lv_aload_n hx hb d_law_583 rfl (lv_at hl 0 rfl) ?_
  refine lv_iload_n hx hb d_law_584 rfl (lv_at hl 3 rfl) ?_
  refine lv_iconst (v := 1) hx hb d_law_585 (by decide) ?_
  refine lv_iadd hx hb d_law_586 ?_
  refine va_sld hx hb hX hbl hbA hI.2.2 (hin 1 (by decide)) d_law_587 ?_
  refine lv_aload_n hx hb d_law_588 rfl (lv_at hl 0 rfl) ?_
  refine lv_iload_n hx hb d_law_589 rfl (lv_at hl 3 rfl) ?_
  refine lv_iconst (v := 2) hx hb d_law_590 (by decide) ?_
  refine lv_iadd hx hb d_law_591 ?_
  refine va_sld hx hb hX hbl hbA hI.2.2 (hin 2 (by decide)) d_law_592 ?_
  refine lv_aload_n hx hb d_law_593 rfl (lv_at hl 0 rfl) ?_
  refine lv_iload_n hx hb d_law_594 rfl (lv_at hl 3 rfl) ?_
  refine lv_iconst (v := 3) hx hb d_law_595 (by decide) ?_
  refine lv_iadd hx hb d_law_596 ?_
  refine va_sld hx hb hX hbl hbA hI.2.2 (hin 3 (by decide)) d_law_597 ?_
  refine fh_callV (As := [.int (xs (nI i + 1).toNatClampNeg), .int (xs (nI i + 2).toNatClampNeg), .int (xs (nI i + 3).toNatClampNeg)]) (rest := [.int v]) S fT_good (hE.nw nw_sub) hI (oi_o e3) rfl (c_Mo_needs3 e2) fy_Mo_needs3 fst_Mo_needs3 k_751 ⟨rfl, rfl⟩ ⟨Nat.le_of_ble_eq_true rfl, Nat.le_of_ble_eq_true rfl⟩ ⟨Nat.le_of_ble_eq_true rfl, Nat.le_of_ble_eq_true rfl⟩ rfl hl.1 rfl (Nat.le_of_ble_eq_true rfl) d_law_598 (fun H locs hI => ?_)
  refine lv_icmp_eq (tgt := 652) hx hb d_law_601 (by decide) (fun _ => ?_) (fun z => absurd rfl z)
  exact kk h2 S' M' _ _ hLI2 hI
set_option maxHeartbeats 4000000 in
set_option maxRecDepth 100000 in
theorem law_row {p : Program} {l : Launch} {e : Env} {s : State} {m : MethodId} {below : List Frame} {meth : Method} {c : Code} {D : va_G} {K t : Nat → Nat} {b L : Nat} {xs : Nat → Int32} {L1 L2 : Nat → Nat → Nat} {h : fh_H} {S0 : CS} {M0 : MS} {H : Heap} {locs : List Loc} {ls : Array Slot} {i : Nat} {Q : State → Prop} (S : CallFix p m c code 4 s #[Value.ref b] fT "FactFinderLaw") (hE : fh_E D classes (tysK K) (tbT t) NWL2 (fun q => s.heap.size ≤ q) s) (hX : va_X b L xs s s.heap) (hbl : b < s.heap.size) (hL : L ≤ 4096) (hi : i + 8 ≤ L) (hLI : LWI K L1 L2 h S0 M0) (hI : fh_I D classes (fun q => s.heap.size ≤ q) s.heap h H locs) (hl : lv_has ls 4 [(0, .ref b), (1, va_rf (some (L1 0 0))), (2, va_rf (some (L2 0 0))), (3, .int (nI i))]) (kk : ∀ (h2 : fh_H) (S' : CS) (M' : MS) (H : Heap) (locs : List Loc), LWI K L1 L2 h2 S' M' → fh_I D classes (fun q => s.heap.size ≤ q) s.heap h2 H locs → W p l e room_1 s m #[Value.ref b] below meth c H locs 76 87639 Q (F0 m 652 ls [])) : W p l e room_1 s m #[Value.ref b] below meth c H locs 76 87639 Q (F0 m 606 ls []) := by
  obtain ⟨hx, hb, hml, hown, hts⟩ := id S
  have hbA : ¬ (fun q : Nat => s.heap.size ≤ q) b := Nat.not_le.mpr hbl
  have hin : ∀ k : Nat, k < 8 → vp_in (nI i + nI k) L := fun k hk => by rw [nI_add]; exact vp_in_nI (by omega) (by omega)
  obtain ⟨v, h1, h2, S', M', e1, e2, ⟨fs, e3⟩, hLI2⟩ := hLI.call (tF := t_FF_row 2000 (xs (nI i + 1).toNatClampNeg) S0) (tM := t_Mo_row 2000 (xs (nI i + 1).toNatClampNeg) M0) (fun h => f_FF_row K 2000 (L1 0 0) (xs (nI i + 1).toNatClampNeg) h) (fun h => f_Mo_row K 2000 (L2 0 0) (xs (nI i + 1).toNatClampNeg) h) (call_row (Nat.le_refl _) hLI.2.2.2.2.2) (fun res ht => u_FF_row hLI.1 ht hLI.2.2.2.1) (fun h1 res hW ht => u_Mo_row hLI.2.1 ht hW)
  replace e1 : f_FF_row K 2000 (L1 0 0) (xs (nI i + 1).toNatClampNeg) h = some (v, h1) := e1
  replace e2 : f_Mo_row K 2000 (L2 0 0) (xs (nI i + 1).toNatClampNeg) h1 = some (v, h2) := e2
  refine fh_aload_n S d_law_606 rfl (lv_at hl 1 rfl) ?_
  refine lv_aload_n hx hb d_law_607 rfl (lv_at hl 0 rfl) ?_
  refine lv_iload_n hx hb d_law_608 rfl (lv_at hl 3 rfl) ?_
  refine lv_iconst (v := 1) hx hb d_law_609 (by decide) ?_
  refine lv_iadd hx hb d_law_610 ?_
  refine va_sld hx hb hX hbl hbA hI.2.2 (hin 1 (by decide)) d_law_611 ?_
  refine fh_callV (As := [.int (xs (nI i + 1).toNatClampNeg)]) (rest := []) S fT_good (hE.nw nw_sub) hI (oi_o (hLI.2.2.2.1.1 0 0 (by decide))) rfl (c_FF_row e1) fy_FF_row fst_FF_row k_733 ⟨rfl, rfl⟩ ⟨Nat.le_of_ble_eq_true rfl, Nat.le_of_ble_eq_true rfl⟩ ⟨Nat.le_of_ble_eq_true rfl, Nat.le_of_ble_eq_true rfl⟩ rfl hl.1 rfl (Nat.le_of_ble_eq_true rfl) d_law_612 (fun H locs hI => ?_)
  refine fh_aload_n S d_law_615 rfl (lv_at hl 2 rfl) ?_
  refine lv_aload_n hx hb d_law_616 rfl (lv_at hl 0 rfl) ?_
  refine lv_iload_n hx hb d_law_617 rfl (lv_at hl 3 rfl) ?_
  refine lv_iconst (v := 1) hx hb d_law_618 (by decide) ?_
  refine lv_iadd hx hb d_law_619 ?_
  refine va_sld hx hb hX hbl hbA hI.2.2 (hin 1 (by decide)) d_law_620 ?_
  refine fh_callV (As := [.int (xs (nI i + 1).toNatClampNeg)]) (rest := [.int v]) S fT_good (hE.nw nw_sub) hI (oi_o e3) rfl (c_Mo_row e2) fy_Mo_row fst_Mo_row k_752 ⟨rfl, rfl⟩ ⟨Nat.le_of_ble_eq_true rfl, Nat.le_of_ble_eq_true rfl⟩ ⟨Nat.le_of_ble_eq_true rfl, Nat.le_of_ble_eq_true rfl⟩ rfl hl.1 rfl (Nat.le_of_ble_eq_true rfl) d_law_621 (fun H locs hI => ?_)
  refine lv_icmp_eq (tgt := 652) hx hb d_law_624 (by decide) (fun _ => ?_) (fun z => absurd rfl z)
  exact kk h2 S' M' _ _ hLI2 hI
set_option maxHeartbeats 4000000 in
set_option maxRecDepth 100000 in
theorem law_ring {p : Program} {l : Launch} {e : Env} {s : State} {m : MethodId} {below : List Frame} {meth : Method} {c : Code} {D : va_G} {K t : Nat → Nat} {b L : Nat} {xs : Nat → Int32} {L1 L2 : Nat → Nat → Nat} {h : fh_H} {S0 : CS} {M0 : MS} {H : Heap} {locs : List Loc} {ls : Array Slot} {i : Nat} {Q : State → Prop} (S : CallFix p m c code 4 s #[Value.ref b] fT "FactFinderLaw") (hE : fh_E D classes (tysK K) (tbT t) NWL2 (fun q => s.heap.size ≤ q) s) (hX : va_X b L xs s s.heap) (hbl : b < s.heap.size) (hL : L ≤ 4096) (hi : i + 8 ≤ L) (hLI : LWI K L1 L2 h S0 M0) (hI : fh_I D classes (fun q => s.heap.size ≤ q) s.heap h H locs) (hl : lv_has ls 4 [(0, .ref b), (1, va_rf (some (L1 0 0))), (2, va_rf (some (L2 0 0))), (3, .int (nI i))]) (kk : ∀ (h2 : fh_H) (S' : CS) (M' : MS) (H : Heap) (locs : List Loc), LWI K L1 L2 h2 S' M' → fh_I D classes (fun q => s.heap.size ≤ q) s.heap h2 H locs → W p l e room_1 s m #[Value.ref b] below meth c H locs 76 87639 Q (F0 m 652 ls [])) : W p l e room_1 s m #[Value.ref b] below meth c H locs 76 87639 Q (F0 m 629 ls []) := by
  obtain ⟨hx, hb, hml, hown, hts⟩ := id S
  have hbA : ¬ (fun q : Nat => s.heap.size ≤ q) b := Nat.not_le.mpr hbl
  have hin : ∀ k : Nat, k < 8 → vp_in (nI i + nI k) L := fun k hk => by rw [nI_add]; exact vp_in_nI (by omega) (by omega)
  obtain ⟨v, h1, h2, S', M', e1, e2, ⟨fs, e3⟩, hLI2⟩ := hLI.call (tF := t_FF_ring 2000 (xs (nI i + 1).toNatClampNeg) S0) (tM := t_Mo_ring 2000 (xs (nI i + 1).toNatClampNeg) M0) (fun h => f_FF_ring K 2000 (L1 0 0) (xs (nI i + 1).toNatClampNeg) h) (fun h => f_Mo_ring K 2000 (L2 0 0) (xs (nI i + 1).toNatClampNeg) h) (call_ring (Nat.le_refl _) hLI.2.2.2.2.2) (fun res ht => u_FF_ring hLI.1 ht hLI.2.2.2.1) (fun h1 res hW ht => u_Mo_ring hLI.2.1 ht hW)
  replace e1 : f_FF_ring K 2000 (L1 0 0) (xs (nI i + 1).toNatClampNeg) h = some (v, h1) := e1
  replace e2 : f_Mo_ring K 2000 (L2 0 0) (xs (nI i + 1).toNatClampNeg) h1 = some (v, h2) := e2
  refine fh_aload_n S d_law_629 rfl (lv_at hl 1 rfl) ?_
  refine lv_aload_n hx hb d_law_630 rfl (lv_at hl 0 rfl) ?_
  refine lv_iload_n hx hb d_law_631 rfl (lv_at hl 3 rfl) ?_
  refine lv_iconst (v := 1) hx hb d_law_632 (by decide) ?_
  refine lv_iadd hx hb d_law_633 ?_
  refine va_sld hx hb hX hbl hbA hI.2.2 (hin 1 (by decide)) d_law_634 ?_
  refine fh_callV (As := [.int (xs (nI i + 1).toNatClampNeg)]) (rest := []) S fT_good (hE.nw nw_sub) hI (oi_o (hLI.2.2.2.1.1 0 0 (by decide))) rfl (c_FF_ring e1) fy_FF_ring fst_FF_ring k_734 ⟨rfl, rfl⟩ ⟨Nat.le_of_ble_eq_true rfl, Nat.le_of_ble_eq_true rfl⟩ ⟨Nat.le_of_ble_eq_true rfl, Nat.le_of_ble_eq_true rfl⟩ rfl hl.1 rfl (Nat.le_of_ble_eq_true rfl) d_law_635 (fun H locs hI => ?_)
  refine fh_aload_n S d_law_638 rfl (lv_at hl 2 rfl) ?_
  refine lv_aload_n hx hb d_law_639 rfl (lv_at hl 0 rfl) ?_
  refine lv_iload_n hx hb d_law_640 rfl (lv_at hl 3 rfl) ?_
  refine lv_iconst (v := 1) hx hb d_law_641 (by decide) ?_
  refine lv_iadd hx hb d_law_642 ?_
  refine va_sld hx hb hX hbl hbA hI.2.2 (hin 1 (by decide)) d_law_643 ?_
  refine fh_callV (As := [.int (xs (nI i + 1).toNatClampNeg)]) (rest := [.int v]) S fT_good (hE.nw nw_sub) hI (oi_o e3) rfl (c_Mo_ring e2) fy_Mo_ring fst_Mo_ring k_753 ⟨rfl, rfl⟩ ⟨Nat.le_of_ble_eq_true rfl, Nat.le_of_ble_eq_true rfl⟩ ⟨Nat.le_of_ble_eq_true rfl, Nat.le_of_ble_eq_true rfl⟩ rfl hl.1 rfl (Nat.le_of_ble_eq_true rfl) d_law_644 (fun H locs hI => ?_)
  refine lv_icmp_eq (tgt := 652) hx hb d_law_647 (by decide) (fun _ => ?_) (fun z => absurd rfl z)
  exact kk h2 S' M' _ _ hLI2 hI
