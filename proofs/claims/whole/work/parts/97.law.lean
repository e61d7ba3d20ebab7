/-! THE CLAIM OUT OF ONE WALK OF THE LAW'S BODY. Your part is whole_start (and what it stands on); all else here is the same for every law, but numbers. -/
def R_law : String := "FactFinderLaw"
def lw_P (b : Addr) (xs : List Int32) (args : Array Value) (s : State) : Prop := args = #[.ref b] ∧ s.IntsAt b xs ∧ xs.length ≤ 4096 ∧ (Jvm.Cond.and given_1 narrow_1).before args s = true
def lw_Q (_ : Array Value) (s : State) (o : Outcome) (t : State) : Prop := o = .returned (some (.int 1)) ∧ Framed s o t [] 600000 7302250
def lw_Z (below : List Frame) (a : Array Value) (s : State) : State → Prop := fun t => ∃ o, t.status = .running ∧ Ended t below o ∧ lw_Q a s o t
/-- the law's own end, with 1 on the stack, nothing written that was there before, its room as the claim has it -/
theorem lw_ret {p : Program} {l : Launch} {e : Env} {s : State} {m : MethodId} {below : List Frame} {meth : Method} {c : Code} {b : Nat} (hx : p.tables.exec = Jvm.exec) (hb : c.code = code) (hr : meth.sig.returnType = ret) (hlocks : meth.locks = false) {pc : Nat} {H : Heap} {ls : Array Slot} (hdg : decode code pc = .ok (.ireturn, 1)) : W p l e room_1 s m #[Value.ref b] below meth c H [] 600000 7302250 (lw_Z below #[Value.ref b] s) (F0 m pc ls [.int 1]) := by
  intro T hT X
  obtain ⟨fs, hret, hrun, hended, hW, hframe⟩ := X.leave (v := some (.int 1)) (hlocks := hlocks) (fun h => by rw [hr] at h; cases h)
  have hmeth' : T.vm.method? m = some meth := X.method'
  refine ⟨T.setFrames fs, ?_, .returned (some (.int 1)), hrun, hended, rfl, ⟨_, rfl⟩, hW, hframe⟩
  jvm_step X.here [X.here.top, hx, hb, hdg, hmeth', hr, ret, narrow_b1]
  (try refine ⟨rfl, ?_⟩); (try refine ⟨rfl, ?_⟩)
  first | (intro acts; rw [hret _ acts rfl rfl rfl]) | rw [hret _ _ rfl rfl rfl]
  exact Steps.refl _
/-- what holds at the law's entry: the machine, the code, the tables' words (any of lw_tbl by 'hts w (by decide +kernel)'), the script of L ints xs at the cell b, what the Statement gives of the start (any of its parts by flat_of_before) -/
def lw_At (p : Program) (s : State) (m : MethodId) (meth : Method) (c : Code) (b L : Nat) (xs : Nat → Int32) : Prop :=
  p.tables.exec = Jvm.exec ∧ c.code = code ∧ meth.sig.returnType = ret ∧ c.maxLocals = 4 ∧ s.vm.findClass R_law = some m.cls ∧ (∀ w ∈ lw_tbl, w.before #[Value.ref b] s = true) ∧ va_X b L xs s s.heap ∧ b < s.heap.size ∧ meth.locks = false ∧ (Jvm.Cond.and given_1 narrow_1).before #[Value.ref b] s = true
theorem neg_8 : ∀ L, L < 8 → (nI L - 8).toInt < 0 := by decide +kernel
theorem law_le {L i : Nat} (hL : L ≤ 4096) (hi : i ≤ L) (h : ¬ nI L - 8 < nI i) : i + 8 ≤ L := by
  rw [Int32.lt_iff_toInt_lt, nI_toInt (n := i) (by omega)] at h
  rcases Nat.lt_or_ge L 8 with q | q
  · have := neg_8 L q
    omega
  · have e : nI L - 8 = nI (L - 8) := by
      have h2 : nI (L - 8) + 8 = nI L := by
        have := nI_add (L - 8) 8
        rw [show L - 8 + 8 = L from by omega] at this
        exact this
      rw [← h2]
      exact Int32.add_sub_cancel _ _
    rw [e, nI_toInt (by omega)] at h
    omega
set_option maxHeartbeats 4000000 in
set_option maxRecDepth 100000 in
theorem law_loop {p : Program} {l : Launch} {e : Env} {s : State} {m : MethodId} {below : List Frame} {meth : Method} {c : Code} {D : va_G} {K t : Nat → Nat} {b L : Nat} {xs : Nat → Int32} {L1 L2 : Nat → Nat → Nat} (hL : L ≤ 4096) (C0 : lw_At p s m meth c b L xs) (S : CallFix p m c code 4 s #[Value.ref b] fT "FactFinderLaw") (hE : fh_E D classes (tysK K) (tbT t) NWL2 (fun q => s.heap.size ≤ q) s) :
    ∀ (n i : Nat), i ≤ L → L + 1 ≤ i + n → ∀ (h : fh_H) (S0 : CS) (M0 : MS) (H : Heap) (locs : List Loc), LWI K L1 L2 h S0 M0 → fh_I D classes (fun q => s.heap.size ≤ q) s.heap h H locs → ∀ (ls : Array Slot), lv_has ls 4 [(0, .ref b), (1, va_rf (some (L1 0 0))), (2, va_rf (some (L2 0 0))), (3, .int (nI i))] → W p l e room_1 s m #[Value.ref b] below meth c H locs 76 87639 (lw_Z below #[Value.ref b] s) (F0 m 18 ls []) := by
  obtain ⟨hx, hb, hr, hml, hown, hts, hX, hbl, hlocks, hgv⟩ := C0
  have hbA : ¬ (fun q : Nat => s.heap.size ≤ q) b := Nat.not_le.mpr hbl
  intro n
  induction n with
  | zero =>
    intro i h1 h2
    exact absurd h2 (by omega)
  | succ n ih =>
    intro i hi hin h S0 M0 H locs hLI hI ls hl
    refine lv_iload_n hx hb d_law_18 rfl (lv_at hl 3 rfl) ?_
    refine lv_aload_n hx hb d_law_19 rfl (lv_at hl 0 rfl) ?_
    refine va_slen hx hb hX hbl hbA hI.2.2 d_law_20 ?_
    refine lv_bipush (v := 8) hx hb d_law_21 (by decide) ?_
    refine lv_isub hx hb d_law_23 ?_
    refine lv_icmp_gt (tgt := 658) hx hb d_law_24 (by decide) (fun _ => ?_) (fun c_24 => ?_)
    · refine lv_iconst (v := 1) hx hb d_law_658 (by decide) ?_
      refine va_forget (fun q hq => hI.2.2.2.2 q hq) ?_
      refine W.widen (k := 600000) (n := 7302250) (Nat.le_of_ble_eq_true rfl) (Nat.le_of_ble_eq_true rfl) ?_
      exact lw_ret hx hb hr hlocks d_law_659
    have h8 : i + 8 ≤ L := law_le hL hi c_24
    have kk : ∀ (h2 : fh_H) (S' : CS) (M' : MS) (H : Heap) (locs : List Loc), LWI K L1 L2 h2 S' M' → fh_I D classes (fun q => s.heap.size ≤ q) s.heap h2 H locs → W p l e room_1 s m #[Value.ref b] below meth c H locs 76 87639 (lw_Z below #[Value.ref b] s) (F0 m 652 ls []) := by
      intro h2 S' M' H locs hLI hI
      refine lv_iinc (v := nI (i + 8)) (lv' := [(3, .int (nI (i + 8))), (0, .ref b), (1, va_rf (some (L1 0 0))), (2, va_rf (some (L2 0 0)))]) hx hb d_law_652 hl (k := 3) rfl (by rw [← nI_add]; rfl) (by decide) rfl (fun ls hl => ?_)
      refine lv_goto (tgt := 18) hx hb d_law_655 (by decide) ?_
      exact ih (i + 8) h8 (by omega) h2 S' M' H locs hLI hI ls (lv_sub hl [1, 2, 3, 0] rfl)
    refine lv_aload_n hx hb d_law_27 rfl (lv_at hl 0 rfl) ?_
    refine lv_iload_n hx hb d_law_28 rfl (lv_at hl 3 rfl) ?_
    refine va_sld hx hb hX hbl hbA hI.2.2 (vp_in_nI (by omega) (by omega)) d_law_29 ?_
    refine lv_bipush (v := 15) hx hb d_law_30 (by decide) ?_
    refine lv_iand hx hb d_law_32 ?_
    generalize xs (nI i).toNatClampNeg &&& 15 = x
    by_cases c_0 : x = 0
    · refine lv_tableIn (tgt := 104) hx hb d_law_33 (by rw [c_0]; decide) (by rw [c_0]; decide) (off := 71) (by rw [c_0]; decide) (by decide) ?_
      exact law_clear S hE hX hbl hL h8 hLI hI hl kk
    by_cases c_1 : x = 1
    · refine lv_tableIn (tgt := 117) hx hb d_law_33 (by rw [c_1]; decide) (by rw [c_1]; decide) (off := 84) (by rw [c_1]; decide) (by decide) ?_
      exact law_step S hE hX hbl hL h8 hLI hI hl kk
    by_cases c_2 : x = 2
    · refine lv_tableIn (tgt := 180) hx hb d_law_33 (by rw [c_2]; decide) (by rw [c_2]; decide) (off := 147) (by rw [c_2]; decide) (by decide) ?_
      exact law_change S hE hX hbl hL h8 hLI hI hl kk
    by_cases c_3 : x = 3
    · refine lv_tableIn (tgt := 255) hx hb d_law_33 (by rw [c_3]; decide) (by rw [c_3]; decide) (off := 222) (by rw [c_3]; decide) (by decide) ?_
      exact law_draw S hE hX hbl hL h8 hLI hI hl kk
    by_cases c_4 : x = 4
    · refine lv_tableIn (tgt := 288) hx hb d_law_33 (by rw [c_4]; decide) (by rw [c_4]; decide) (off := 255) (by rw [c_4]; decide) (by decide) ?_
      exact law_count S hE hX hbl hL h8 hLI hI hl kk
    by_cases c_5 : x = 5
    · refine lv_tableIn (tgt := 311) hx hb d_law_33 (by rw [c_5]; decide) (by rw [c_5]; decide) (off := 278) (by rw [c_5]; decide) (by decide) ?_
      exact law_told S hE hX hbl hL h8 hLI hI hl kk
    by_cases c_6 : x = 6
    · refine lv_tableIn (tgt := 344) hx hb d_law_33 (by rw [c_6]; decide) (by rw [c_6]; decide) (off := 311) (by rw [c_6]; decide) (by decide) ?_
      exact law_falls S hE hX hbl hL h8 hLI hI hl kk
    by_cases c_7 : x = 7
    · refine lv_tableIn (tgt := 367) hx hb d_law_33 (by rw [c_7]; decide) (by rw [c_7]; decide) (off := 334) (by rw [c_7]; decide) (by decide) ?_
      exact law_place S hE hX hbl hL h8 hLI hI hl kk
    by_cases c_8 : x = 8
    · refine lv_tableIn (tgt := 410) hx hb d_law_33 (by rw [c_8]; decide) (by rw [c_8]; decide) (off := 377) (by rw [c_8]; decide) (by decide) ?_
      exact law_holds S hE hX hbl hL h8 hLI hI hl kk
    by_cases c_9 : x = 9
    · refine lv_tableIn (tgt := 497) hx hb d_law_33 (by rw [c_9]; decide) (by rw [c_9]; decide) (off := 464) (by rw [c_9]; decide) (by decide) ?_
      exact law_facts S hE hX hbl hL h8 hLI hI hl kk
    by_cases c_10 : x = 10
    · refine lv_tableIn (tgt := 520) hx hb d_law_33 (by rw [c_10]; decide) (by rw [c_10]; decide) (off := 487) (by rw [c_10]; decide) (by decide) ?_
      exact law_fact S hE hX hbl hL h8 hLI hI hl kk
    by_cases c_11 : x = 11
    · refine lv_tableIn (tgt := 563) hx hb d_law_33 (by rw [c_11]; decide) (by rw [c_11]; decide) (off := 530) (by rw [c_11]; decide) (by decide) ?_
      exact law_needs S hE hX hbl hL h8 hLI hI hl kk
    by_cases c_12 : x = 12
    · refine lv_tableIn (tgt := 606) hx hb d_law_33 (by rw [c_12]; decide) (by rw [c_12]; decide) (off := 573) (by rw [c_12]; decide) (by decide) ?_
      exact law_row S hE hX hbl hL h8 hLI hI hl kk
    by_cases c_13 : x = 13
    · refine lv_tableIn (tgt := 629) hx hb d_law_33 (by rw [c_13]; decide) (by rw [c_13]; decide) (off := 596) (by rw [c_13]; decide) (by decide) ?_
      exact law_ring S hE hX hbl hL h8 hLI hI hl kk
    have c_33 : x.toInt < 0 ∨ 13 < x.toInt := by
      have q0 : x.toInt ≠ 0 := fun q => c_0 (Int32.toInt_inj.mp (q.trans (by decide)))
      have q1 : x.toInt ≠ 1 := fun q => c_1 (Int32.toInt_inj.mp (q.trans (by decide)))
      have q2 : x.toInt ≠ 2 := fun q => c_2 (Int32.toInt_inj.mp (q.trans (by decide)))
      have q3 : x.toInt ≠ 3 := fun q => c_3 (Int32.toInt_inj.mp (q.trans (by decide)))
      have q4 : x.toInt ≠ 4 := fun q => c_4 (Int32.toInt_inj.mp (q.trans (by decide)))
      have q5 : x.toInt ≠ 5 := fun q => c_5 (Int32.toInt_inj.mp (q.trans (by decide)))
      have q6 : x.toInt ≠ 6 := fun q => c_6 (Int32.toInt_inj.mp (q.trans (by decide)))
      have q7 : x.toInt ≠ 7 := fun q => c_7 (Int32.toInt_inj.mp (q.trans (by decide)))
      have q8 : x.toInt ≠ 8 := fun q => c_8 (Int32.toInt_inj.mp (q.trans (by decide)))
      have q9 : x.toInt ≠ 9 := fun q => c_9 (Int32.toInt_inj.mp (q.trans (by decide)))
      have q10 : x.toInt ≠ 10 := fun q => c_10 (Int32.toInt_inj.mp (q.trans (by decide)))
      have q11 : x.toInt ≠ 11 := fun q => c_11 (Int32.toInt_inj.mp (q.trans (by decide)))
      have q12 : x.toInt ≠ 12 := fun q => c_12 (Int32.toInt_inj.mp (q.trans (by decide)))
      have q13 : x.toInt ≠ 13 := fun q => c_13 (Int32.toInt_inj.mp (q.trans (by decide)))
      omega
    refine lv_tableOut (tgt := 652) hx hb d_law_33 c_33 (by decide) ?_
    exact kk h S0 M0 H locs hLI hI
set_option maxHeartbeats 4000000 in
set_option maxRecDepth 100000 in
theorem whole_start {p : Program} {e : Env} {s : State} {m : MethodId} {below : List Frame} {meth : Method} {c : Code} (l : Launch) {b L : Nat} {xs : Nat → Int32} (hL : L ≤ 4096) (C0 : lw_At p s m meth c b L xs) : W p l e room_1 s m #[Value.ref b] below meth c s.heap [] 0 0 (lw_Z below #[Value.ref b] s) (entryFrame m ([Value.ref b] : List Value).toArray 4) := by
  obtain ⟨hx, hb, hr, hml, hown, hts0, hX, hbl, hlocks, hgv⟩ := id C0
  have S : CallFix p m c code 4 s #[Value.ref b] fT "FactFinderLaw" := ⟨hx, hb, hml, hown, fun w hw => hts0 w (fL w hw)⟩
  obtain ⟨D, K, t, hE⟩ := law_env hts0 hgv
  have hI : fh_I D classes (fun q => s.heap.size ≤ q) s.heap (fun _ => none) s.heap [] := ⟨fun a e h => (by cases h), fun a e h => (by cases h), va_S.rf⟩
  have hl := lv_entry ([.ref b]) (n := 4) (Nat.le_of_ble_eq_true rfl)
  rw [lg_entry_eq]
  generalize (lg_sl ([.ref b]) ++ List.replicate (4 - (lg_sl ([.ref b])).length) Slot.unset).toArray = ls at hl ⊢
  have hl : lv_has ls 4 [(0, .ref b)] := hl
  refine fh_new S hE hI (ci := 0) rfl in_0 tok_0 k_686 k_674 k_236 (fs := [.null, .null, .null, .int 0, .int 0]) (by decide +kernel) (Nat.le_of_ble_eq_true rfl) (Nat.le_of_ble_eq_true rfl) d_law_0 (fun q1 Ha f_q1 hIa => ?_)
  refine lv_dup hx hb d_law_3 rfl ?_
  refine fh_callI (As := []) (rest := [.ref q1]) S fT_good hE hIa (c_FF_init (first_FF (K := K) (N := 2000) (by decide) f_q1)) fy_FF_init rfl k_688 k_687 ⟨rfl, rfl⟩ ⟨Nat.le_of_ble_eq_true rfl, Nat.le_of_ble_eq_true rfl⟩ ⟨Nat.le_of_ble_eq_true rfl, Nat.le_of_ble_eq_true rfl⟩ rfl hl.1 rfl (Nat.le_of_ble_eq_true rfl) d_law_4 (fun h1 Hb locb hP hIb => ?_)
  obtain ⟨L1, S1, hL1, hq1, hW1, hC1⟩ := hP
  subst hq1
  refine lv_astore_n (lv' := [(1, .ref (L1 0 0)), (0, .ref b)]) hx hb d_law_7 rfl hl (by decide) rfl (fun ls hl => ?_)
  refine fh_new S hE hIb (ci := 6) rfl in_6 tok_6 k_735 k_680 k_445 (fs := [.int 0, .null, .null, .int 0, .int 0, .null, .null, .null, .int 0, .long 0, .long 0, .long 0, .int 0, .null, .int 0, .int 0, .null, .int 0, .int 0, .null, .int 0, .null]) (by decide +kernel) (Nat.le_of_ble_eq_true rfl) (Nat.le_of_ble_eq_true rfl) d_law_8 (fun q2 Hc f_q2 hIc => ?_)
  refine lv_dup hx hb d_law_11 rfl ?_
  refine fh_callI (As := []) (rest := [.ref q2]) S fT_good hE hIc (c_Mo_init (first_Mo (K := K) (N := 2000) (by decide) f_q2)) fy_Mo_init rfl k_737 k_736 ⟨rfl, rfl⟩ ⟨Nat.le_of_ble_eq_true rfl, Nat.le_of_ble_eq_true rfl⟩ ⟨Nat.le_of_ble_eq_true rfl, Nat.le_of_ble_eq_true rfl⟩ rfl hl.1 rfl (Nat.le_of_ble_eq_true rfl) d_law_12 (fun h2 Hd locd hP hId => ?_)
  obtain ⟨L2, M1, hL2, hq2, hW2, hM1, hn2⟩ := hP
  subst hq2
  refine lv_astore_n (lv' := [(2, .ref (L2 0 0)), (1, .ref (L1 0 0)), (0, .ref b)]) hx hb d_law_15 rfl hl (by decide) rfl (fun ls hl => ?_)
  refine lv_iconst (v := 0) hx hb d_law_16 (by decide) ?_
  refine lv_istore_n (lv' := [(3, .int 0), (2, .ref (L2 0 0)), (1, .ref (L1 0 0)), (0, .ref b)]) hx hb d_law_17 rfl hl (by decide) rfl (fun ls hl => ?_)
  have ap : ∀ t i t2 i2, i < cs_bd t → i2 < ms_bd t2 → L1 t i ≠ L2 t2 i2 := by
    intro t i t2 i2 g1 g2 z
    have z1 := hW1.1 t i g1
    rw [z, hn2 t2 i2 g2] at z1
    cases z1
  have hLI : LWI K L1 L2 h2 S1 M1 := ⟨hL1, hL2, ap, ⟨fun t i g => (hW2.2 (L1 t i) (fun t2 i2 g2 => ap t i t2 i2 g g2)).trans (hW1.1 t i g), fun _ _ => rfl⟩, ⟨hW2.1, fun _ _ => rfl⟩, 0, 1, 1, _, _, hC1, hM1⟩
  exact law_loop hL C0 S hE (L + 1) 0 (Nat.zero_le L) (by omega) h2 S1 M1 Hd _ hLI hId ls (lv_sub hl [3, 2, 1, 0] rfl)
