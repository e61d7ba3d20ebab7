/-! WHAT THE START GIVES: classes, arrays, tables -/
theorem ak_p {args : Array Value} {s : State} {ty : FieldType} (h : (Cond.arrayClass ty).before args s = true) : ∃ cA : ClassId, ArrOfT s cA ty ∧ s.vm.findClass ("[" ++ ty.toString) = some cA := by
  obtain ⟨c, k, comp, h1, h2, h3⟩ := Cond.arrayClass_spec h
  exact ⟨c, fun n z => ⟨fun k h => (by cases h), k, h2, comp, h3⟩, h1⟩
theorem ak_q {args : Array Value} {s : State} {C : String} (h : (Cond.arrayOver (.object C)).before args s = true) : ∃ cA : ClassId, ArrOfT s cA (.object C) ∧ va_RA s cA (.object C) := by
  obtain ⟨comp, c, k, h1, h2, h3, h4, h5⟩ := Cond.arrayOver_spec h
  exact ⟨c, fun n z => ⟨fun k h => (by cases h), k, h3, comp, h4⟩, k, comp, h3, h4, h1, h5⟩
theorem tl_0 : ∀ j, j < 9 → Cond.eq (.elem (Term.static "FactFinder" "MOST_FACTS" "[I") (.int (Int32.ofNat j))) (.int (tb_0 j)) ∈ flatC (Jvm.Cond.and given_1 narrow_1) := by decide +kernel
theorem tT_0 {args : Array Value} {s : State} {A : Nat → Prop} (hgv : (Jvm.Cond.and given_1 narrow_1).before args s = true) (hts : ∀ w ∈ lw_tbl, w.before args s = true) (hA : ∀ a : Nat, a < s.heap.size → ¬ A a) : ∃ t : Nat, va_Z "FactFinder" "MOST_FACTS" "[I" (.ref t) A s s.heap ∧ va_T .int t 9 (fun j => .int (tb_0 j)) A s s.heap := by
  have hs := flat_of_before _ hgv
  obtain ⟨t, ht, hT⟩ := va_Tof (tm := (Term.static "FactFinder" "MOST_FACTS" "[I")) (f := fun j => .int (tb_0 j)) (N := 9) (A := A) (by decide) (hs (.arrayOf (Term.static "FactFinder" "MOST_FACTS" "[I") .int) (by decide +kernel)) (va_eqt (hs (.eq (.length (Term.static "FactFinder" "MOST_FACTS" "[I")) (.int (Int32.ofNat 9))) (by decide +kernel))) (fun j hj => va_eqt (hs _ (tl_0 j hj))) hA
  exact ⟨t, va_Zref (hts _ sL_0) (hts _ (fL _ k_236)) ht hA, hT⟩
theorem tl_1 : ∀ j, j < 14 → Cond.eq (.elem (Term.static "FactFinder" "STEP_POINTS" "[I") (.int (Int32.ofNat j))) (.int (tb_1 j)) ∈ flatC (Jvm.Cond.and given_1 narrow_1) := by decide +kernel
theorem tT_1 {args : Array Value} {s : State} {A : Nat → Prop} (hgv : (Jvm.Cond.and given_1 narrow_1).before args s = true) (hts : ∀ w ∈ lw_tbl, w.before args s = true) (hA : ∀ a : Nat, a < s.heap.size → ¬ A a) : ∃ t : Nat, va_Z "FactFinder" "STEP_POINTS" "[I" (.ref t) A s s.heap ∧ va_T .int t 14 (fun j => .int (tb_1 j)) A s s.heap := by
  have hs := flat_of_before _ hgv
  obtain ⟨t, ht, hT⟩ := va_Tof (tm := (Term.static "FactFinder" "STEP_POINTS" "[I")) (f := fun j => .int (tb_1 j)) (N := 14) (A := A) (by decide) (hs (.arrayOf (Term.static "FactFinder" "STEP_POINTS" "[I") .int) (by decide +kernel)) (va_eqt (hs (.eq (.length (Term.static "FactFinder" "STEP_POINTS" "[I")) (.int (Int32.ofNat 14))) (by decide +kernel))) (fun j hj => va_eqt (hs _ (tl_1 j hj))) hA
  exact ⟨t, va_Zref (hts _ sL_1) (hts _ (fL _ k_236)) ht hA, hT⟩
theorem tl_2 : ∀ j, j < 9 → Cond.eq (.elem (Term.static "FactFinder" "FACT_POINTS" "[I") (.int (Int32.ofNat j))) (.int (tb_2 j)) ∈ flatC (Jvm.Cond.and given_1 narrow_1) := by decide +kernel
theorem tT_2 {args : Array Value} {s : State} {A : Nat → Prop} (hgv : (Jvm.Cond.and given_1 narrow_1).before args s = true) (hts : ∀ w ∈ lw_tbl, w.before args s = true) (hA : ∀ a : Nat, a < s.heap.size → ¬ A a) : ∃ t : Nat, va_Z "FactFinder" "FACT_POINTS" "[I" (.ref t) A s s.heap ∧ va_T .int t 9 (fun j => .int (tb_2 j)) A s s.heap := by
  have hs := flat_of_before _ hgv
  obtain ⟨t, ht, hT⟩ := va_Tof (tm := (Term.static "FactFinder" "FACT_POINTS" "[I")) (f := fun j => .int (tb_2 j)) (N := 9) (A := A) (by decide) (hs (.arrayOf (Term.static "FactFinder" "FACT_POINTS" "[I") .int) (by decide +kernel)) (va_eqt (hs (.eq (.length (Term.static "FactFinder" "FACT_POINTS" "[I")) (.int (Int32.ofNat 9))) (by decide +kernel))) (fun j hj => va_eqt (hs _ (tl_2 j hj))) hA
  exact ⟨t, va_Zref (hts _ sL_2) (hts _ (fL _ k_236)) ht hA, hT⟩
theorem tl_3 : ∀ j, j < 9 → Cond.eq (.elem (Term.static "FactFinder" "FACT_WIDTH" "[I") (.int (Int32.ofNat j))) (.int (tb_3 j)) ∈ flatC (Jvm.Cond.and given_1 narrow_1) := by decide +kernel
theorem tT_3 {args : Array Value} {s : State} {A : Nat → Prop} (hgv : (Jvm.Cond.and given_1 narrow_1).before args s = true) (hts : ∀ w ∈ lw_tbl, w.before args s = true) (hA : ∀ a : Nat, a < s.heap.size → ¬ A a) : ∃ t : Nat, va_Z "FactFinder" "FACT_WIDTH" "[I" (.ref t) A s s.heap ∧ va_T .int t 9 (fun j => .int (tb_3 j)) A s s.heap := by
  have hs := flat_of_before _ hgv
  obtain ⟨t, ht, hT⟩ := va_Tof (tm := (Term.static "FactFinder" "FACT_WIDTH" "[I")) (f := fun j => .int (tb_3 j)) (N := 9) (A := A) (by decide) (hs (.arrayOf (Term.static "FactFinder" "FACT_WIDTH" "[I") .int) (by decide +kernel)) (va_eqt (hs (.eq (.length (Term.static "FactFinder" "FACT_WIDTH" "[I")) (.int (Int32.ofNat 9))) (by decide +kernel))) (fun j hj => va_eqt (hs _ (tl_3 j hj))) hA
  exact ⟨t, va_Zref (hts _ sL_3) (hts _ (fL _ k_236)) ht hA, hT⟩
theorem law_env {b : Nat} {s : State} (hts : ∀ w ∈ lw_tbl, w.before #[Value.ref b] s = true) (hgv : (Jvm.Cond.and given_1 narrow_1).before #[Value.ref b] s = true) : ∃ (D : va_G) (K t : Nat → Nat), fh_E D classes (tysK K) (tbT t) NWL2 (fun q => s.heap.size ≤ q) s := by
  have htf : ∀ w ∈ fT, w.before #[Value.ref b] s = true := fun w hw => hts w (fL w hw)
  have hA : ∀ a : Nat, a < s.heap.size → ¬ (fun q : Nat => s.heap.size ≤ q) a := fun a ha => Nat.not_le.mpr ha
  obtain ⟨c0, i0, kn0⟩ := u_known (C := "FactFinder") (T := T_0) (N := 5) (n := 5) htf in_0 (htf _ k_674)
  obtain ⟨c1, i1, kn1⟩ := u_known (C := "FactFinder$Plan") (T := T_1) (N := 3) (n := 3) htf in_1 (htf _ k_675)
  obtain ⟨c2, i2, kn2⟩ := u_known (C := "FactFinder$Findings") (T := T_2) (N := 9) (n := 9) htf in_2 (htf _ k_676)
  obtain ⟨c3, i3, kn3⟩ := u_known (C := "FactFinder$Drawing") (T := T_3) (N := 5) (n := 5) htf in_3 (htf _ k_677)
  obtain ⟨c4, i4, kn4⟩ := u_known (C := "FactFinder$Figure") (T := T_4) (N := 7) (n := 7) htf in_4 (htf _ k_678)
  obtain ⟨c5, i5, kn5⟩ := u_known (C := "FactFinder$IntList") (T := T_5) (N := 2) (n := 2) htf in_5 (htf _ k_679)
  obtain ⟨c6, i6, kn6⟩ := u_known (C := "FactFinderModel") (T := T_6) (N := 22) (n := 22) htf in_6 (htf _ k_680)
  obtain ⟨a0, ar0, an0⟩ := ak_p (htf _ k_681)
  obtain ⟨a1, ar1, an1⟩ := ak_p (htf _ k_682)
  obtain ⟨a2, ar2, an2⟩ := ak_p (htf _ k_683)
  obtain ⟨a3, ar3, an3⟩ := ak_q (hts _ (nL _ kw_8))
  obtain ⟨a4, ar4, an4⟩ := ak_q (hts _ (nL _ kw_9))
  obtain ⟨t0, tz0, tt0⟩ := tT_0 hgv hts hA
  obtain ⟨t1, tz1, tt1⟩ := tT_1 hgv hts hA
  obtain ⟨t2, tz2, tt2⟩ := tT_2 hgv hts hA
  obtain ⟨t3, tz3, tt3⟩ := tT_3 hgv hts hA
  refine ⟨(fun k => [c0, c1, c2, c3, c4, c5, c6].getD k c0, fun k => [i0, i1, i2, i3, i4, i5, i6].getD k i0), fun k => [a0, a1, a2, a3, a4].getD k a0, fun k => [t0, t1, t2, t3].getD k t0, ⟨?_, ?_⟩, ?_, nL_N hts, fun q hq => hq⟩
  · intro c q hq
    match c, hq with
    | 0, hq => cases hq; exact kn0
    | 1, hq => cases hq; exact kn1
    | 2, hq => cases hq; exact kn2
    | 3, hq => cases hq; exact kn3
    | 4, hq => cases hq; exact kn4
    | 5, hq => cases hq; exact kn5
    | 6, hq => cases hq; exact kn6
    | c + 7, hq => exact absurd (List.getElem?_eq_some_iff.mp hq).1 (by show ¬ c + 7 < 7; omega)
  · intro k q hq
    match k, hq with
    | 0, hq => cases hq; exact ⟨ar0, an0⟩
    | 1, hq => cases hq; exact ⟨ar1, an1⟩
    | 2, hq => cases hq; exact ⟨ar2, an2⟩
    | 3, hq => cases hq; exact ⟨ar3, an3⟩
    | 4, hq => cases hq; exact ⟨ar4, an4⟩
    | k + 5, hq => exact absurd (List.getElem?_eq_some_iff.mp hq).1 (by show ¬ k + 5 < 5; omega)
  · intro k q hq
    match k, hq with
    | 0, hq => cases hq; exact ⟨tz0, tt0⟩
    | 1, hq => cases hq; exact ⟨tz1, tt1⟩
    | 2, hq => cases hq; exact ⟨tz2, tt2⟩
    | 3, hq => cases hq; exact ⟨tz3, tt3⟩
    | k + 4, hq => exact absurd (List.getElem?_eq_some_iff.mp hq).1 (by show ¬ k + 4 < 4; omega)
