/-! FUNCTIONAL HEAPS THAT GROW: a new cell lies where the world had none -/
theorem fh_grow {D : va_G} {cl : List vw_C} {A : Nat → Prop} {H0 H H1 : Heap} {h : fh_H} {locs : List Loc} {q : Nat} {e : va_E} (hI : fh_I D cl A H0 h H locs) (hP : va_P D cl (fh_ws h H.size ++ [(q, e)]) H1) (hD : va_D A (fh_ws h H.size ++ [(q, e)])) (hS : va_S A H0 H1 locs) : h q = none ∧ fh_I D cl A H0 (fh_up h q e) H1 locs := by
  have hq : (fh_ws h H.size ++ [(q, e)])[(fh_ws h H.size).length]? = some (q, e) := by
    rw [List.getElem?_append_right (Nat.le_refl _), Nat.sub_self]
    rfl
  have hold : ∀ (k : Nat) (x : Nat × va_E), (fh_ws h H.size)[k]? = some x → k < (fh_ws h H.size).length ∧ (fh_ws h H.size ++ [(q, e)])[k]? = some x := by
    intro k x hk
    have hlt : k < (fh_ws h H.size).length := (List.getElem?_eq_some_iff.mp hk).1
    exact ⟨hlt, by rw [List.getElem?_append_left hlt]; exact hk⟩
  have hno : h q = none := by
    cases hh : h q with
    | none => rfl
    | some e2 =>
      obtain ⟨k, hk⟩ := hI.1.ix hh
      obtain ⟨h1, h2⟩ := hold k _ hk
      have := hD.1 k _ _ _ h2 hq rfl
      omega
  refine ⟨hno, fun a e2 ha => ?_, fun a e2 ha => ?_, hS⟩
  · by_cases haq : a = q
    · subst haq
      rw [fh_up_s] at ha
      obtain rfl := Option.some.inj ha
      exact hP _ _ hq
    · rw [fh_up_n haq] at ha
      obtain ⟨k, hk⟩ := hI.1.ix ha
      exact hP k _ (hold k _ hk).2
  · by_cases haq : a = q
    · subst haq
      exact hD.2 _ _ hq
    · rw [fh_up_n haq] at ha
      exact hI.2.1 a e2 ha
theorem fh_ra {U : State} {c : ClassId} {ty : FieldType} (h : va_RA U c ty) : U.vm.findClass ("[" ++ ty.toString) = some c := by
  cases ty with
  | object C =>
    obtain ⟨_, _, _, _, _, h4⟩ := h
    exact h4
  | _ => exact h
theorem fh_tyu {D : va_G} {cl : List vw_C} {tys : List (ClassId × FieldType)} {s : State} {cA cB : ClassId} {ty : FieldType} {t0 : Nat} (hK : va_K D cl tys s) (ht : tys[t0]? = some (cA, ty)) (hK2 : va_K D cl (tys ++ [(cB, ty)]) s) : cB = cA := by
  have h1 := fh_ra (hK.2 t0 _ ht).2
  have h2 := fh_ra (hK2.2 tys.length (cB, ty) (by rw [List.getElem?_append_right (Nat.le_refl _), Nat.sub_self]; rfl)).2
  have h3 : some cA = some cB := h1.symm.trans h2
  exact (Option.some.inj h3).symm
section FHN
variable {p : Program} {l : Launch} {e : Env} {R : Room} {s : State} {m : MethodId} {args : Array Value} {below : List Frame} {meth : Method} {c : Code} {H : Heap} {locs : List Loc} {cells slots : Nat} {Q : State → Prop}
variable {cc : ByteArray} {nL pc : Nat} {ls : Array Slot} {rest st0 : List Value} {D : va_G} {cl : List vw_C} {A : Nat → Prop} {tys : List (ClassId × FieldType)} {Tb : List fh_Tab} {NW : List Cond} {h h1 : fh_H} {Ts : List Cond} {own : String}
variable {y : MethodName} {bytes : ByteArray} {maxL n index mc ms : Nat} {rm : Room} {As : List Value} {P : fh_H → Prop}
theorem fh_new (S : CallFix p m c cc nL s args Ts own) (hE : fh_E D cl tys Tb NW A s) (hI : fh_I D cl A s.heap h H locs) {C : String} {T : u_T} {N ci : Nat} (hc : cl[ci]? = some (C, T, N)) (hin : ∀ w ∈ u_ws C T N, w ∈ Ts) {ty : Nat → FieldType} (hty : ∀ k, k < N → parseFieldDescriptor (T k).2.2.1 = some (ty k)) (hcl : Cond.classLink own index C ∈ Ts) (hinst : Cond.instantiable C N ∈ Ts) (hini : Cond.initialized C ∈ Ts) {fs : List Value} (hfs : ∀ j, j < N → defaultValue (ty j) = vp_V fs j) (hcells : cells + 1 ≤ R.cells) (hslots : slots + N ≤ R.slots) (hdg : decode cc pc = .ok (.new index, 3))
    (kk : ∀ (q : Nat) (H : Heap), h q = none → fh_I D cl A s.heap (fh_up h q (.inr (ci, fs))) H locs → W p l e R s m args below meth c H locs (cells + 1) (slots + N) Q (F0 m (pc + 3) ls (.ref q :: rest))) : W p l e R s m args below meth c H locs cells slots Q (F0 m pc ls rest) :=
  va_new S.1 S.2.1 S.2.2.2.2 hin ty hty S.2.2.2.1 (S.2.2.2.2 _ hcl) (S.2.2.2.2 _ hinst) (S.2.2.2.2 _ hini) hE.1 hI.1.P hI.D hI.2.2 hE.2.2.2 hc hfs hcells hslots hdg (fun q H1 hP hD hS => kk q H1 (fh_grow hI hP hD hS).1 (fh_grow hI hP hD hS).2)
theorem fh_newa (S : CallFix p m c cc nL s args Ts own) (hE : fh_E D cl tys Tb NW A s) (hI : fh_I D cl A s.heap h H locs) {atype : ArrayType} {ty : FieldType} {cA : ClassId} (t0 : Nat) (ht : tys[t0]? = some (cA, ty)) (harr : Cond.arrayClass (newarray.typeOf atype) ∈ Ts) (hty : newarray.typeOf atype = ty) {x : Int32} {N' : Nat} {a0 : vp_A} (ha : ∀ cA : ClassId, vp_cell cA a0 = arrV cA N' (fun _ => defaultValue ty)) (hn : ¬ x < 0) (hN : x.toNatClampNeg = N') (hbytes : N' * componentBytes ty ≤ 536870912) (hcells : cells + 1 ≤ R.cells) (hslots : slots + N' ≤ R.slots) (hdg : decode cc pc = .ok (.newarray atype, 2))
    (kk : ∀ (q : Nat) (H : Heap), h q = none → fh_I D cl A s.heap (fh_up h q (.inl (cA, a0))) H locs → W p l e R s m args below meth c H locs (cells + 1) (slots + N') Q (F0 m (pc + 2) ls (.ref q :: rest))) : W p l e R s m args below meth c H locs cells slots Q (F0 m pc ls (.int x :: rest)) :=
  va_newa S.1 S.2.1 (S.2.2.2.2 _ harr) hty hE.1 hI.1.P hI.D hI.2.2 hE.2.2.2 ha hn hN hbytes hcells hslots hdg (fun q cB H1 hK2 hP hD hS => by
    have e := fh_tyu hE.1 ht hK2
    subst e
    exact kk q H1 (fh_grow hI hP hD hS).1 (fh_grow hI hP hD hS).2)
theorem fh_newq (S : CallFix p m c cc nL s args Ts own) (hE : fh_E D cl tys Tb NW A s) (hI : fh_I D cl A s.heap h H locs) {C : String} {cA : ClassId} (t0 : Nat) (ht : tys[t0]? = some (cA, .object C)) (hlink : Cond.classLink own index C ∈ Ts) (hover : Cond.arrayOver (.object C) ∈ NW) {x : Int32} {N' : Nat} (hn : ¬ x < 0) (hN : x.toNatClampNeg = N') (hbytes : N' * 4 ≤ 536870912) (hcells : cells + 1 ≤ R.cells) (hslots : slots + N' ≤ R.slots) (hdg : decode cc pc = .ok (.anewarray index, 3))
    (kk : ∀ (q : Nat) (H : Heap), h q = none → fh_I D cl A s.heap (fh_up h q (.inl (cA, N', .inr (.inr (.inr (.inr (fun _ => none))))))) H locs → W p l e R s m args below meth c H locs (cells + 1) (slots + N') Q (F0 m (pc + 3) ls (.ref q :: rest))) : W p l e R s m args below meth c H locs cells slots Q (F0 m pc ls (.int x :: rest)) :=
  va_newq S.1 S.2.1 S.2.2.2.1 (S.2.2.2.2 _ hlink) (hE.2.2.1 _ hover).2 hE.1 hI.1.P hI.D hI.2.2 hE.2.2.2 hn hN hbytes hcells hslots hdg (fun q cB H1 hK2 hP hD hS => by
    have e := fh_tyu hE.1 ht hK2
    subst e
    exact kk q H1 (fh_grow hI hP hD hS).1 (fh_grow hI hP hD hS).2)
theorem fh_oinit (S : CallFix p m c cc nL s args Ts own) (hlink : Cond.methodLink own index Lib.objectInit ∈ Ts) (hinst : Cond.instanceMethod Lib.objectInit ∈ Ts) (hcode : Cond.code Lib.objectInit ⟨#[0xb1]⟩ 1 none ∈ Ts) (hsize : ls.size = nL) {a : Nat} (hd : decode cc pc = .ok (.invokespecial index, 3)) (hframes : 1 ≤ R.frames) (hlocals : (rest.map fun v => v.category).sum + 12 ≤ R.locals)
    (kk : W p l e R s m args below meth c H locs cells slots Q (F0 m (pc + 3) ls rest)) : W p l e R s m args below meth c H locs cells slots Q (F0 m pc ls (.ref a :: rest)) :=
  W.objInit S.1 S.2.1 S.2.2.2.1 (S.2.2.2.2 _ hlink) (S.2.2.2.2 _ hinst) (S.2.2.2.2 _ hcode) (g := F0 m pc ls (.ref a :: rest)) rfl (hsize.trans S.2.2.1.symm) (a := a) (rest := rest) rfl hd hframes (by show 2 * 0 + _ + 12 ≤ _; omega) kk
/-- a constructor: it makes at most mc cells of ms slots, and its world at the end has P -/
def fh_CW (l : Launch) (y : MethodName) (ws : List Cond) (rm : Room) (D : va_G) (cl : List vw_C) (tys : List (ClassId × FieldType)) (Tb : List fh_Tab) (NW : List Cond) (vs : List Value) (h : fh_H) (P : fh_H → Prop) (mc ms : Nat) : Prop :=
  ∀ sz : Nat, Met l y ws rm (va_Pc vs (fh_pre D cl tys Tb NW h sz)) (fun a st oc t => ∃ h', P h' ∧ fh_Q D cl h sz none h' a st oc t) mc ms (fh_A h sz)
theorem fh_callW {a : Array Value} (hr : va_Run p l e R s m args below meth c H locs cells slots mc ms (F0 m pc ls st0) rest (fun st oc t => ∃ h', P h' ∧ fh_Q D cl h H.size none h' a st oc t) (fh_A h H.size)) (hE : fh_E D cl tys Tb NW A s) (hI : fh_I D cl A s.heap h H locs)
    (kk : ∀ (h1 : fh_H) (H : Heap) (locs : List Loc), P h1 → fh_I D cl A s.heap h1 H locs → W p l e R s m args below meth c H locs (cells + mc) (slots + ms) Q (F0 m (pc + 3) ls rest)) : W p l e R s m args below meth c H locs cells slots Q (F0 m pc ls st0) := by
  intro T hT X
  obtain ⟨v', st₀, t, T', L, h0, X', hL, e1, e2, ⟨h1, hP1, hv, hR, hdom, hz, hk⟩, st⟩ := hr T hT X
  cases hv
  rw [h0] at hz hk
  have hAA := hE.sub hI
  obtain ⟨t2, a1, b1⟩ := kk h1 T'.heap (locs ++ L) hP1 ⟨by rw [e1]; exact hR, fun b x hx => hAA b (hdom b x hx), ⟨Nat.le_trans hI.2.2.1 (by rw [e1]; exact hz), fun q g1 g2 => by
    rw [e1, hk q (Nat.lt_of_lt_of_le g1 hI.2.2.1) (fun z => g2 (hAA q z))]
    exact hI.2.2.2.1 q g1 g2, fun q hq => by
    rcases List.mem_append.mp hq with g | g
    · exact hI.2.2.2.2 q g
    · exact hAA _ (hL q g)⟩⟩ T' rfl X'
  exact ⟨t2, st t2 a1, b1⟩
theorem fh_callI (S : CallFix p m c cc nL s args Ts own) (hg : fh_Good Ts) (hE : fh_E D cl tys Tb NW A s) (hI : fh_I D cl A s.heap h H locs) {b : Nat} (hM : fh_CW l y (Cond.code y bytes maxL none :: Ts) rm D cl tys Tb NW (.ref b :: As) h P mc ms) (hy : fh_Y Ts y bytes maxL none n) (hnm : y.name = "<init>") (hst : Cond.instanceMethod y ∈ Ts) (hlink : Cond.methodLink own index y ∈ Ts) (hrc : rm.cells = mc ∧ rm.slots = ms) (hR : rm.frames + 1 ≤ R.frames ∧ 8 + (maxL + 11) + rm.locals ≤ R.locals) (hf : cells + mc ≤ R.cells ∧ slots + ms ≤ R.slots)
    (hn : As.length = n) (hsize : ls.size = nL) (hstack : st0 = As.reverse ++ .ref b :: rest) (hW : (rest.map fun v => v.category).sum ≤ 8) (hdg : decode cc pc = .ok (.invokespecial index, 3))
    (kk : ∀ (h1 : fh_H) (H : Heap) (locs : List Loc), P h1 → fh_I D cl A s.heap h1 H locs → W p l e R s m args below meth c H locs (cells + mc) (slots + ms) Q (F0 m (pc + 3) ls rest)) : W p l e R s m args below meth c H locs cells slots Q (F0 m pc ls st0) :=
  fh_callW (a := (Value.ref b :: As).toArray) (va_runI (g := F0 m pc ls st0) S (hM H.size) ⟨callB_of n S.2.2.2.2 (hg.cons hy.1) rfl hrc.1 hrc.2 (S.2.2.2.2 _ hy.2.1) (S.2.2.2.2 _ hlink) hy.2.2 hR, hnm, S.2.2.2.2 _ hst⟩ ⟨fh_blind, fun U hU hW => ⟨rfl, hE.pre hI hU hW⟩⟩ rfl hn hsize hstack (lv_room hW) hdg hf) hE hI kk
theorem fh_callIN {host : String} (S : CallFix p m c cc nL s args Ts own) (hg : fh_Good Ts) (hE : fh_E D cl tys Tb NW A s) (hI : fh_I D cl A s.heap h H locs) {b : Nat} (hM : fh_CW l y (Cond.code y bytes maxL none :: Ts) rm D cl tys Tb NW (.ref b :: As) h P mc ms) (hy : fh_Y Ts y bytes maxL none n) (hnm : y.name = "<init>") (hst : Cond.instanceMethod y ∈ Ts) (hlink : Cond.methodLinkNest own index y host ∈ NW) (hrc : rm.cells = mc ∧ rm.slots = ms) (hR : rm.frames + 1 ≤ R.frames ∧ 8 + (maxL + 11) + rm.locals ≤ R.locals) (hf : cells + mc ≤ R.cells ∧ slots + ms ≤ R.slots)
    (hn : As.length = n) (hsize : ls.size = nL) (hstack : st0 = As.reverse ++ .ref b :: rest) (hW : (rest.map fun v => v.category).sum ≤ 8) (hdg : decode cc pc = .ok (.invokespecial index, 3))
    (kk : ∀ (h1 : fh_H) (H : Heap) (locs : List Loc), P h1 → fh_I D cl A s.heap h1 H locs → W p l e R s m args below meth c H locs (cells + mc) (slots + ms) Q (F0 m (pc + 3) ls rest)) : W p l e R s m args below meth c H locs cells slots Q (F0 m pc ls st0) :=
  fh_callW (a := (Value.ref b :: As).toArray) (va_runIN (g := F0 m pc ls st0) S (hM H.size) ⟨va_cnB n S.2.2.2.2 (hg.cons hy.1) rfl hrc.1 hrc.2 (hE.2.2.1 _ hlink).2 (S.2.2.2.2 _ hy.2.1) hy.2.2 hR, hnm, S.2.2.2.2 _ hst⟩ ⟨fh_blind, fun U hU hW => ⟨rfl, hE.pre hI hU hW⟩⟩ rfl hn hsize hstack (lv_room hW) hdg hf) hE hI kk
/-- a constructor's body, and its end -/
theorem fh_bodyW {vs : List Value} (hy : plainName y.cls = true) (hvs : (lg_sl vs).length ≤ maxL)
    (body : ∀ (p : Program) (e : Env) (s : State) (m : MethodId) (below : List Frame) (meth : Method) (c : Code) (A : Nat → Prop) (ls : Array Slot), CallFix p m c cc maxL s vs.toArray Ts y.cls → meth.sig.returnType = none → meth.locks = false → meth.name = y.name → fh_E D cl tys Tb NW A s → A = fh_A h s.heap.size → fh_I D cl A s.heap h s.heap [] → lv_has ls maxL (lv_args 0 vs) →
      W p l e rm s m vs.toArray below meth c s.heap [] 0 0 (MQ below (fun a st oc t => ∃ h', P h' ∧ fh_Q D cl h s.heap.size none h' a st oc t) vs.toArray s mc ms A) (F0 m 0 ls [])) : fh_CW l y (Cond.code y cc maxL none :: Ts) rm D cl tys Tb NW vs h P mc ms := by
  intro sz
  refine Met.ofW (cc := cc) (maxL := maxL) (ret := none) hy rfl ?_
  intro p e s m args below meth c s₁ B hml hv
  obtain ⟨rfl, rfl, hR, hK, hT, hN⟩ := hv
  have hts := atoms_spec (ws := Cond.code y cc maxL none :: Ts) B.pre
  rw [lg_entry_eq]
  exact body p e s m below meth c (fh_A h s.heap.size) _ ⟨B.exec, B.bytes, hml, findClass_of_methodNamed B.named, fun w hw => hts w (List.mem_cons_of_mem _ hw)⟩ B.returns B.notSynchronized (name_of_methodNamed B.named B.method).1 ⟨hK, hT, hN, fun q hq => Or.inr hq⟩ rfl ⟨hR, fun a x hx => Or.inl ⟨x, hx⟩, va_S.rf⟩ (lv_entry vs hvs)
theorem fh_vretW {h' : fh_H} (S : CallFix p m c cc nL s args Ts own) (hr : meth.sig.returnType = none) (hk : meth.locks = false) (hA : A = fh_A h s.heap.size) (hI : fh_I D cl A s.heap h' H locs) (hP : P h') (hdg : decode cc pc = .ok (.return_, 1)) :
    W p l e R s m args below meth c H locs cells slots (MQ below (fun a st oc t => ∃ h', P h' ∧ fh_Q D cl h s.heap.size none h' a st oc t) args s cells slots A) (F0 m pc ls []) := by
  subst hA
  exact W.vret S.1 S.2.1 hr (fun t ht hW => ⟨h', hP, rfl, by rw [ht]; exact hI.1, hI.2.1, hI.2.2.F ht⟩) hI.2.2.2.2 hdg hk
end FHN
theorem fh_E.nw {D : va_G} {cl : List vw_C} {tys : List (ClassId × FieldType)} {Tb : List fh_Tab} {NW NW2 : List Cond} {A : Nat → Prop} {s : State} (h : fh_E D cl tys Tb NW2 A s) (hs : ∀ w ∈ NW, w ∈ NW2) : fh_E D cl tys Tb NW A s := ⟨h.1, h.2.1, fun w hw => h.2.2.1 w (hs w hw), h.2.2.2⟩
