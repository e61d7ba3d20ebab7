/-! FUNCTIONAL HEAPS: a world is a function from addresses to cells; a method is a function on worlds that may fail (none); where it answers, the machine does the same -/
abbrev fh_H : Type := Nat → Option va_E
def fh_R (D : va_G) (cl : List vw_C) (h : fh_H) (H : Heap) : Prop := ∀ (a : Nat) (e : va_E), h a = some e → va_at D cl (a, e) H
def fh_up (h : fh_H) (a : Nat) (e : va_E) : fh_H := fun q => if q = a then some e else h q
theorem fh_up_s {h : fh_H} {a : Nat} {e : va_E} : fh_up h a e a = some e := by simp [fh_up]
theorem fh_up_n {h : fh_H} {a q : Nat} {e : va_E} (hq : q ≠ a) : fh_up h a e q = h q := by simp [fh_up, hq]
/-- what a method may write: its world's cells, and those that it makes -/
def fh_A (h : fh_H) (sz : Nat) : Nat → Prop := fun q => (∃ e, h q = some e) ∨ sz ≤ q
def fh_I (D : va_G) (cl : List vw_C) (A : Nat → Prop) (H0 : Heap) (h : fh_H) (H : Heap) (locs : List Loc) : Prop :=
  fh_R D cl h H ∧ (∀ (a : Nat) (e : va_E), h a = some e → A a) ∧ va_S A H0 H locs
theorem fh_R.one {D : va_G} {cl : List vw_C} {h : fh_H} {H : Heap} {a : Nat} {e : va_E} (hR : fh_R D cl h H) (ha : h a = some e) : va_P D cl [(a, e)] H := by
  intro k q hk
  cases k with
  | zero => cases hk; exact hR a e ha
  | succ k => simp at hk
theorem fh_R.lt {D : va_G} {cl : List vw_C} {h : fh_H} {H : Heap} {a : Nat} {e : va_E} (hR : fh_R D cl h H) (ha : h a = some e) : a < H.size := (hR a e ha).lt
/-- a world as a list: its cells in the order of their addresses -/
def fh_ws (h : fh_H) (n : Nat) : va_W := (List.range n).filterMap (fun a => (h a).map (fun e => (a, e)))
theorem fh_ws_mem {h : fh_H} {n a : Nat} {e : va_E} : (a, e) ∈ fh_ws h n ↔ a < n ∧ h a = some e := by
  unfold fh_ws
  rw [List.mem_filterMap]
  constructor
  · rintro ⟨b, hb, hx⟩
    cases hh : h b with
    | none => rw [hh] at hx; cases hx
    | some x =>
      rw [hh] at hx
      cases hx
      exact ⟨List.mem_range.mp hb, hh⟩
  · rintro ⟨h1, h2⟩
    exact ⟨a, List.mem_range.mpr h1, by rw [h2]; rfl⟩
theorem fh_ws_lt {h : fh_H} {n : Nat} : List.Pairwise (fun x y : Nat × va_E => x.1 < y.1) (fh_ws h n) := by
  unfold fh_ws
  refine List.Pairwise.filterMap (R := fun x y : Nat => x < y) _ ?_ List.pairwise_lt_range
  intro a b hab x hx y hy
  cases h1 : h a with
  | none => rw [h1] at hx; cases hx
  | some u =>
    cases h2 : h b with
    | none => rw [h2] at hy; cases hy
    | some w =>
      rw [h1] at hx
      rw [h2] at hy
      cases hx
      cases hy
      exact hab
theorem fh_ws_inj {h : fh_H} {n i j : Nat} {x y : Nat × va_E} (hi : (fh_ws h n)[i]? = some x) (hj : (fh_ws h n)[j]? = some y) (e : x.1 = y.1) : i = j := by
  have hp := List.pairwise_iff_getElem.mp (fh_ws_lt (h := h) (n := n))
  obtain ⟨li, ei⟩ := List.getElem?_eq_some_iff.mp hi
  obtain ⟨lj, ej⟩ := List.getElem?_eq_some_iff.mp hj
  rcases Nat.lt_trichotomy i j with q | q | q
  · have := hp i j li lj q
    rw [ei, ej] at this
    omega
  · exact q
  · have := hp j i lj li q
    rw [ei, ej] at this
    omega
theorem fh_R.P {D : va_G} {cl : List vw_C} {h : fh_H} {H : Heap} (hR : fh_R D cl h H) : va_P D cl (fh_ws h H.size) H := by
  intro k q hk
  obtain ⟨a, e⟩ := q
  exact hR a e (fh_ws_mem.mp (List.mem_of_getElem? hk)).2
theorem fh_I.D {D : va_G} {cl : List vw_C} {A : Nat → Prop} {H0 H : Heap} {h : fh_H} {locs : List Loc} (hI : fh_I D cl A H0 h H locs) {n : Nat} : va_D A (fh_ws h n) := by
  refine ⟨fun i j x y hx hy e => fh_ws_inj hx hy e, fun k q hk => ?_⟩
  obtain ⟨a, e⟩ := q
  exact hI.2.1 a e (fh_ws_mem.mp (List.mem_of_getElem? hk)).2
theorem fh_R.ix {D : va_G} {cl : List vw_C} {h : fh_H} {H : Heap} (hR : fh_R D cl h H) {a : Nat} {e : va_E} (ha : h a = some e) : ∃ k : Nat, (fh_ws h H.size)[k]? = some (a, e) := List.getElem?_of_mem (fh_ws_mem.mpr ⟨hR.lt ha, ha⟩)
/-- one cell of a world has become another -/
theorem fh_I.set {D : va_G} {cl : List vw_C} {A : Nat → Prop} {H0 H H1 : Heap} {h : fh_H} {locs locs1 : List Loc} {a k : Nat} {e0 e1 : va_E} (hI : fh_I D cl A H0 h H locs) (ha : h a = some e0) (hk : (fh_ws h H.size)[k]? = some (a, e0)) (hP : va_P D cl ((fh_ws h H.size).set k (a, e1)) H1) (hS : va_S A H0 H1 locs1) : fh_I D cl A H0 (fh_up h a e1) H1 locs1 := by
  have hl := (List.getElem?_eq_some_iff.mp hk).1
  refine ⟨fun b x hb => ?_, fun b x hb => ?_, hS⟩
  · by_cases hba : b = a
    · subst hba
      rw [fh_up_s] at hb
      cases hb
      exact hP k _ (List.getElem?_set_self hl)
    · rw [fh_up_n hba] at hb
      obtain ⟨j, hj⟩ := hI.1.ix hb
      refine hP j _ ?_
      rw [List.getElem?_set_ne]
      · exact hj
      · intro q
        subst q
        rw [hk] at hj
        cases hj
        exact hba rfl
  · by_cases hba : b = a
    · subst hba
      exact hI.2.1 b e0 ha
    · rw [fh_up_n hba] at hb
      exact hI.2.1 b x hb
/-! tables: static arrays, never written -/
abbrev fh_Tab : Type := (String × String × String) × FieldType × Nat × Nat × (Nat → Value)
def fh_T (Tb : List fh_Tab) (A : Nat → Prop) (U : State) (H : Heap) : Prop := ∀ (k : Nat) (q : fh_Tab), Tb[k]? = some q → va_Z q.1.1 q.1.2.1 q.1.2.2 (.ref q.2.2.1) A U H ∧ va_T q.2.1 q.2.2.1 q.2.2.2.1 q.2.2.2.2 A U H
theorem fh_T.moved {Tb : List fh_Tab} {A : Nat → Prop} {u U : State} {H : Heap} (hvm : u.vm.Alike U.vm) (h : fh_T Tb A u H) : fh_T Tb A U H := fun k q hq => ⟨(h k q hq).1.moved hvm, (h k q hq).2.moved hvm⟩
theorem fh_T.kept {Tb : List fh_Tab} {A : Nat → Prop} {U : State} {H H1 : Heap} (h : fh_T Tb A U H) (hq : ∀ a : Nat, a < H.size → ¬ A a → H1[a]? = H[a]?) : fh_T Tb A U H1 := fun k q hk => ⟨(h k q hk).1.kept hq, (h k q hk).2.kept hq⟩
theorem fh_T.narrow {Tb : List fh_Tab} {A B : Nat → Prop} {U : State} {H : Heap} (h : fh_T Tb A U H) (hAB : ∀ q, B q → A q) : fh_T Tb B U H := fun k q hk => ⟨(h k q hk).1.narrow hAB, (h k q hk).2.narrow hAB⟩
/-! words that are carried along: links of nest mates, classes of arrays of objects -/
def fh_nw : Cond → Bool
  | .fieldLinkNest _ _ _ _ _ _ => true
  | .methodLinkNest _ _ _ _ => true
  | .arrayOver (.object _) => true
  | _ => false
def fh_N (NW : List Cond) (U : State) : Prop := ∀ w ∈ NW, fh_nw w = true ∧ va_Nw w U
theorem fh_N.warm {NW : List Cond} {s U : State} (hW : s.WarmedH U.vm) (h : fh_N NW s) : fh_N NW U := by
  intro w hw
  obtain ⟨h1, h2⟩ := h w hw
  refine ⟨h1, ?_⟩
  unfold fh_nw at h1
  split at h1
  · exact va_Nw.warmF hW h2
  · exact va_Nw.warmM hW h2
  · exact va_AO.moved hW.alike h2
  · cases h1
/-! the reads and writes of functions on worlds -/
def fg_i (h : fh_H) (v : Option Nat) (ci k : Nat) : Option Int32 := match v with
  | none => none
  | some a => match h a with
    | some (.inr (c, fs)) => if c = ci then (match fs[k]? with
      | some (.int x) => some x
      | _ => none) else none
    | _ => none
def fg_l (h : fh_H) (v : Option Nat) (ci k : Nat) : Option Int64 := match v with
  | none => none
  | some a => match h a with
    | some (.inr (c, fs)) => if c = ci then (match fs[k]? with
      | some (.long x) => some x
      | _ => none) else none
    | _ => none
def fg_a (h : fh_H) (v : Option Nat) (ci k : Nat) : Option (Option Nat) := match v with
  | none => none
  | some a => match h a with
    | some (.inr (c, fs)) => if c = ci then (match fs[k]? with
      | some (.ref x) => some (some x)
      | some .null => some none
      | _ => none) else none
    | _ => none
/-- the object of a class -/
def fg_o (h : fh_H) (v : Option Nat) (ci : Nat) : Option Nat := match v with
  | none => none
  | some a => match h a with
    | some (.inr (c, _)) => if c = ci then some a else none
    | _ => none
def fp_v (h : fh_H) (v : Option Nat) (ci k : Nat) (x : Value) : Option fh_H := match v with
  | none => none
  | some a => match h a with
    | some (.inr (c, fs)) => if c = ci ∧ k < fs.length then some (fh_up h a (.inr (ci, fs.set k x))) else none
    | _ => none
def fa_i (cA : ClassId) (h : fh_H) (v : Option Nat) (i : Int32) : Option Int32 := match v with
  | none => none
  | some a => match h a with
    | some (.inl (c, n, .inl f)) => if c = cA ∧ ¬ (i < 0 ∨ n ≤ i.toNatClampNeg) then some (f i.toNatClampNeg) else none
    | _ => none
def fa_l (cA : ClassId) (h : fh_H) (v : Option Nat) (i : Int32) : Option Int64 := match v with
  | none => none
  | some a => match h a with
    | some (.inl (c, n, .inr (.inl f))) => if c = cA ∧ ¬ (i < 0 ∨ n ≤ i.toNatClampNeg) then some (f i.toNatClampNeg) else none
    | _ => none
def fa_a (cA : ClassId) (h : fh_H) (v : Option Nat) (i : Int32) : Option (Option Nat) := match v with
  | none => none
  | some a => match h a with
    | some (.inl (c, n, .inr (.inr (.inr (.inr f))))) => if c = cA ∧ ¬ (i < 0 ∨ n ≤ i.toNatClampNeg) then some (f i.toNatClampNeg) else none
    | _ => none
def fs_i (cA : ClassId) (h : fh_H) (v : Option Nat) (i x : Int32) : Option fh_H := match v with
  | none => none
  | some a => match h a with
    | some (.inl (c, n, .inl f)) => if c = cA ∧ ¬ (i < 0 ∨ n ≤ i.toNatClampNeg) then some (fh_up h a (.inl (cA, n, .inl (upd f i.toNatClampNeg x)))) else none
    | _ => none
def fs_l (cA : ClassId) (h : fh_H) (v : Option Nat) (i : Int32) (x : Int64) : Option fh_H := match v with
  | none => none
  | some a => match h a with
    | some (.inl (c, n, .inr (.inl f))) => if c = cA ∧ ¬ (i < 0 ∨ n ≤ i.toNatClampNeg) then some (fh_up h a (.inl (cA, n, .inr (.inl (vp_updL f i.toNatClampNeg x))))) else none
    | _ => none
/-- an object into an array of its class -/
def fs_a (cA : ClassId) (ci : Nat) (h : fh_H) (v : Option Nat) (i : Int32) (x : Option Nat) : Option fh_H := match v, x with
  | some a, some b => match h a, h b with
    | some (.inl (c, n, .inr (.inr (.inr (.inr f))))), some (.inr (cb, _)) => if (c = cA ∧ cb = ci) ∧ ¬ (i < 0 ∨ n ≤ i.toNatClampNeg) then some (fh_up h a (.inl (cA, n, .inr (.inr (.inr (.inr (va_up f i.toNatClampNeg (some b)))))))) else none
    | _, _ => none
  | _, _ => none
def fl_n (cA : ClassId) (h : fh_H) (v : Option Nat) : Option Int32 := match v with
  | none => none
  | some a => match h a with
    | some (.inl (c, n, _)) => if c = cA then some (Int32.ofNat n) else none
    | _ => none
/-- a table's element -/
def ft_i (N : Nat) (f : Nat → Int32) (i : Int32) : Option Int32 := if i < 0 ∨ N ≤ i.toNatClampNeg then none else some (f i.toNatClampNeg)
theorem fg_i_s {h : fh_H} {v : Option Nat} {ci k : Nat} {x : Int32} (e : fg_i h v ci k = some x) : ∃ (a : Nat) (fs : List Value), v = some a ∧ h a = some (.inr (ci, fs)) ∧ fs[k]? = some (.int x) := by
  unfold fg_i at e
  split at e
  · cases e
  · split at e
    · rename_i a c fs ha
      split at e
      · rename_i hc
        subst hc
        split at e
        · rename_i y hy
          cases e
          exact ⟨_, fs, rfl, ha, hy⟩
        · cases e
      · cases e
    · cases e
theorem fg_l_s {h : fh_H} {v : Option Nat} {ci k : Nat} {x : Int64} (e : fg_l h v ci k = some x) : ∃ (a : Nat) (fs : List Value), v = some a ∧ h a = some (.inr (ci, fs)) ∧ fs[k]? = some (.long x) := by
  unfold fg_l at e
  split at e
  · cases e
  · split at e
    · rename_i a c fs ha
      split at e
      · rename_i hc
        subst hc
        split at e
        · rename_i y hy
          cases e
          exact ⟨_, fs, rfl, ha, hy⟩
        · cases e
      · cases e
    · cases e
theorem fg_a_s {h : fh_H} {v : Option Nat} {ci k : Nat} {x : Option Nat} (e : fg_a h v ci k = some x) : ∃ (a : Nat) (fs : List Value), v = some a ∧ h a = some (.inr (ci, fs)) ∧ fs[k]? = some (va_rf x) := by
  unfold fg_a at e
  split at e
  · cases e
  · split at e
    · rename_i a c fs ha
      split at e
      · rename_i hc
        subst hc
        split at e
        · rename_i y hy
          cases e
          exact ⟨_, fs, rfl, ha, hy⟩
        · rename_i hy
          cases e
          exact ⟨_, fs, rfl, ha, hy⟩
        · cases e
      · cases e
    · cases e
theorem fg_o_s {h : fh_H} {v : Option Nat} {ci a : Nat} (e : fg_o h v ci = some a) : ∃ (fs : List Value), v = some a ∧ h a = some (.inr (ci, fs)) := by
  unfold fg_o at e
  split at e
  · cases e
  · split at e
    · rename_i c fs ha
      split at e
      · rename_i hc
        subst hc
        cases e
        exact ⟨fs, rfl, ha⟩
      · cases e
    · cases e
theorem fp_v_s {h h1 : fh_H} {v : Option Nat} {ci k : Nat} {x : Value} (e : fp_v h v ci k x = some h1) : ∃ (a : Nat) (fs : List Value), v = some a ∧ h a = some (.inr (ci, fs)) ∧ k < fs.length ∧ h1 = fh_up h a (.inr (ci, fs.set k x)) := by
  unfold fp_v at e
  split at e
  · cases e
  · split at e
    · rename_i a c fs ha
      split at e
      · rename_i hc
        obtain ⟨rfl, hl⟩ := hc
        cases e
        exact ⟨_, fs, rfl, ha, hl, rfl⟩
      · cases e
    · cases e
theorem fa_i_s {cA : ClassId} {h : fh_H} {v : Option Nat} {i x : Int32} (e : fa_i cA h v i = some x) : ∃ (a n : Nat) (f : Nat → Int32), v = some a ∧ h a = some (.inl (cA, n, .inl f)) ∧ vp_in i n ∧ x = f i.toNatClampNeg := by
  unfold fa_i at e
  split at e
  · cases e
  · split at e
    · rename_i a c n f ha
      split at e
      · rename_i hc
        obtain ⟨rfl, hl⟩ := hc
        cases e
        exact ⟨_, n, f, rfl, ha, hl, rfl⟩
      · cases e
    · cases e
theorem fa_l_s {cA : ClassId} {h : fh_H} {v : Option Nat} {i : Int32} {x : Int64} (e : fa_l cA h v i = some x) : ∃ (a n : Nat) (f : Nat → Int64), v = some a ∧ h a = some (.inl (cA, n, .inr (.inl f))) ∧ vp_in i n ∧ x = f i.toNatClampNeg := by
  unfold fa_l at e
  split at e
  · cases e
  · split at e
    · rename_i a c n f ha
      split at e
      · rename_i hc
        obtain ⟨rfl, hl⟩ := hc
        cases e
        exact ⟨_, n, f, rfl, ha, hl, rfl⟩
      · cases e
    · cases e
theorem fa_a_s {cA : ClassId} {h : fh_H} {v : Option Nat} {i : Int32} {x : Option Nat} (e : fa_a cA h v i = some x) : ∃ (a n : Nat) (f : Nat → Option Nat), v = some a ∧ h a = some (.inl (cA, n, .inr (.inr (.inr (.inr f))))) ∧ vp_in i n ∧ x = f i.toNatClampNeg := by
  unfold fa_a at e
  split at e
  · cases e
  · split at e
    · rename_i a c n f ha
      split at e
      · rename_i hc
        obtain ⟨rfl, hl⟩ := hc
        cases e
        exact ⟨_, n, f, rfl, ha, hl, rfl⟩
      · cases e
    · cases e
theorem fs_i_s {cA : ClassId} {h h1 : fh_H} {v : Option Nat} {i x : Int32} (e : fs_i cA h v i x = some h1) : ∃ (a n : Nat) (f : Nat → Int32), v = some a ∧ h a = some (.inl (cA, n, .inl f)) ∧ vp_in i n ∧ h1 = fh_up h a (.inl (cA, n, .inl (upd f i.toNatClampNeg x))) := by
  unfold fs_i at e
  split at e
  · cases e
  · split at e
    · rename_i a c n f ha
      split at e
      · rename_i hc
        obtain ⟨rfl, hl⟩ := hc
        cases e
        exact ⟨_, n, f, rfl, ha, hl, rfl⟩
      · cases e
    · cases e
theorem fs_l_s {cA : ClassId} {h h1 : fh_H} {v : Option Nat} {i : Int32} {x : Int64} (e : fs_l cA h v i x = some h1) : ∃ (a n : Nat) (f : Nat → Int64), v = some a ∧ h a = some (.inl (cA, n, .inr (.inl f))) ∧ vp_in i n ∧ h1 = fh_up h a (.inl (cA, n, .inr (.inl (vp_updL f i.toNatClampNeg x)))) := by
  unfold fs_l at e
  split at e
  · cases e
  · split at e
    · rename_i a c n f ha
      split at e
      · rename_i hc
        obtain ⟨rfl, hl⟩ := hc
        cases e
        exact ⟨_, n, f, rfl, ha, hl, rfl⟩
      · cases e
    · cases e
theorem fs_a_s {cA : ClassId} {ci : Nat} {h h1 : fh_H} {v x : Option Nat} {i : Int32} (e : fs_a cA ci h v i x = some h1) : ∃ (a b n : Nat) (f : Nat → Option Nat) (fs : List Value), v = some a ∧ x = some b ∧ h a = some (.inl (cA, n, .inr (.inr (.inr (.inr f))))) ∧ h b = some (.inr (ci, fs)) ∧ vp_in i n ∧ h1 = fh_up h a (.inl (cA, n, .inr (.inr (.inr (.inr (va_up f i.toNatClampNeg (some b))))))) := by
  unfold fs_a at e
  split at e
  · split at e
    · rename_i a b _ _ c n f cb fs ha hb
      split at e
      · rename_i hc
        obtain ⟨⟨rfl, rfl⟩, hl⟩ := hc
        cases e
        exact ⟨_, _, n, f, fs, rfl, rfl, ha, hb, hl, rfl⟩
      · cases e
    · cases e
  · cases e
theorem fl_n_s {cA : ClassId} {h : fh_H} {v : Option Nat} {x : Int32} (e : fl_n cA h v = some x) : ∃ (a : Nat) (y : vp_A), v = some a ∧ h a = some (.inl (cA, y)) ∧ x = Int32.ofNat y.1 := by
  unfold fl_n at e
  split at e
  · cases e
  · split at e
    · rename_i a c n f ha
      split at e
      · rename_i hc
        subst hc
        cases e
        exact ⟨_, (n, f), rfl, ha, rfl⟩
      · cases e
    · cases e
theorem ft_i_s {N : Nat} {f : Nat → Int32} {i x : Int32} (e : ft_i N f i = some x) : vp_in i N ∧ x = f i.toNatClampNeg := by
  unfold ft_i at e
  split at e
  · cases e
  · rename_i hc
    cases e
    exact ⟨hc, rfl⟩
/-- the next step of a function on worlds -/
theorem fh_b {α β : Type} {o : Option α} {f : α → Option β} {r : β} (hf : o.bind f = some r) : ∃ x, o = some x ∧ f x = some r := by
  cases o with
  | none => cases hf
  | some x => exact ⟨x, rfl, hf⟩
theorem fh_no {α : Type} {r : α} {P : Prop} (h : (none : Option α) = some r) : P := by cases h
theorem fh_t {α : Type} {c : Prop} [Decidable c] {x y : Option α} {r : α} (hc : c) (hf : (if c then x else y) = some r) : x = some r := by
  rw [if_pos hc] at hf
  exact hf
theorem fh_f {α : Type} {c : Prop} [Decidable c] {x y : Option α} {r : α} (hc : ¬ c) (hf : (if c then x else y) = some r) : y = some r := by
  rw [if_neg hc] at hf
  exact hf
theorem fh_qe {α : Type} {x y : α} (h : some x = some y) : y = x := (Option.some.inj h).symm
/-- a truth value as the answer -/
def fz (x : Int32) (h : fh_H) : Option (Int32 × fh_H) := if x = 0 ∨ x = 1 then some (x, h) else none
theorem fz_s {x : Int32} {h : fh_H} {r : Int32 × fh_H} (hf : fz x h = some r) : (x = 0 ∨ x = 1) ∧ (x, h) = r := by
  unfold fz at hf
  split at hf
  · rename_i hc
    exact ⟨hc, Option.some.inj hf⟩
  · cases hf
theorem fh_nb {x : Int32} (h : x = 0 ∨ x = 1) : narrow .boolean (.int x) = .int x := by
  rcases h with rfl | rfl <;> rfl
def fr_i (x y : Int32) : Int32 := x - x / y * y
def fr_l (x y : Int64) : Int64 := x - x / y * y
def fp_z (h : fh_H) (v : Option Nat) (ci k : Nat) (x : Int32) : Option fh_H := if x = 0 ∨ x = 1 then fp_v h v ci k (.int x) else none
def fs_z (cA : ClassId) (h : fh_H) (v : Option Nat) (i x : Int32) : Option fh_H := if x = 0 ∨ x = 1 then fs_i cA h v i x else none
theorem fp_z_s {h h1 : fh_H} {v : Option Nat} {ci k : Nat} {x : Int32} (e : fp_z h v ci k x = some h1) : (x = 0 ∨ x = 1) ∧ fp_v h v ci k (.int x) = some h1 := by
  unfold fp_z at e
  split at e
  · rename_i hc
    exact ⟨hc, e⟩
  · cases e
theorem fs_z_s {cA : ClassId} {h h1 : fh_H} {v : Option Nat} {i x : Int32} (e : fs_z cA h v i x = some h1) : (x = 0 ∨ x = 1) ∧ fs_i cA h v i x = some h1 := by
  unfold fs_z at e
  split at e
  · rename_i hc
    exact ⟨hc, e⟩
  · cases e
theorem fh_fb {x : Int32} (h : x = 0 ∨ x = 1) : fits .boolean (.int x) = true := by
  rcases h with rfl | rfl <;> rfl
theorem fh_vb {x : Int32} (h : x = 0 ∨ x = 1) : vp_nar .boolean x = x := by
  rcases h with rfl | rfl <;> rfl
/-! the machine's steps beside those of functions on worlds -/
section FHW
variable {p : Program} {l : Launch} {e : Env} {R : Room} {s : State} {m : MethodId} {args : Array Value} {below : List Frame} {meth : Method} {c : Code} {H : Heap} {locs : List Loc} {cells slots : Nat} {Q : State → Prop}
variable {cc : ByteArray} {nL pc : Nat} {ls : Array Slot} {rest : List Value} {D : va_G} {cl : List vw_C} {A : Nat → Prop} {tys : List (ClassId × FieldType)} {H0 : Heap} {h h1 : fh_H} {v : Option Nat} {Ts : List Cond} {own : String}
theorem fh_aload_n (S : CallFix p m c cc nL s args Ts own) {k : Fin 4} {i : Nat} (hdg : decode cc pc = .ok (.aload_n k, 1)) (hi : (k : Nat) = i) (hl : ls[i]? = some (.val (va_rf v)))
    (kk : W p l e R s m args below meth c H locs cells slots Q (F0 m (pc + 1) ls (va_rf v :: rest))) : W p l e R s m args below meth c H locs cells slots Q (F0 m pc ls rest) := by
  cases v with
  | none => exact lv_aload_nN S.1 S.2.1 hdg hi hl kk
  | some a => exact lv_aload_n S.1 S.2.1 hdg hi hl kk
theorem fh_aload (S : CallFix p m c cc nL s args Ts own) {i : Nat} (hdg : decode cc pc = .ok (.aload i, 2)) (hl : ls[i]? = some (.val (va_rf v)))
    (kk : W p l e R s m args below meth c H locs cells slots Q (F0 m (pc + 2) ls (va_rf v :: rest))) : W p l e R s m args below meth c H locs cells slots Q (F0 m pc ls rest) := by
  cases v with
  | none => exact lv_aloadN S.1 S.2.1 hdg hl kk
  | some a => exact lv_aload S.1 S.2.1 hdg hl kk
theorem fh_astore_n (S : CallFix p m c cc nL s args Ts own) {k : Fin 4} {i nM : Nat} {lv lv' : List (Nat × Value)} (hdg : decode cc pc = .ok (.astore_n k, 1)) (hi : (k : Nat) = i) (hh : lv_has ls nM lv) (hn : i < nM) (hl : (i, va_rf v) :: lv.filter (fun q => !(q.1 == i) && !(q.1 + 1 == i && q.2.category == 2)) = lv')
    (kk : ∀ ls' : Array Slot, lv_has ls' nM lv' → W p l e R s m args below meth c H locs cells slots Q (F0 m (pc + 1) ls' rest)) : W p l e R s m args below meth c H locs cells slots Q (F0 m pc ls (va_rf v :: rest)) := by
  cases v with
  | none => exact lv_astore_nN S.1 S.2.1 hdg hi hh hn hl kk
  | some a => exact lv_astore_n S.1 S.2.1 hdg hi hh hn hl kk
theorem fh_astore (S : CallFix p m c cc nL s args Ts own) {i nM : Nat} {lv lv' : List (Nat × Value)} (hdg : decode cc pc = .ok (.astore i, 2)) (hh : lv_has ls nM lv) (hn : i < nM) (hl : (i, va_rf v) :: lv.filter (fun q => !(q.1 == i) && !(q.1 + 1 == i && q.2.category == 2)) = lv')
    (kk : ∀ ls' : Array Slot, lv_has ls' nM lv' → W p l e R s m args below meth c H locs cells slots Q (F0 m (pc + 2) ls' rest)) : W p l e R s m args below meth c H locs cells slots Q (F0 m pc ls (va_rf v :: rest)) := by
  cases v with
  | none => exact lv_astoreN S.1 S.2.1 hdg hh hn hl kk
  | some a => exact lv_astore S.1 S.2.1 hdg hh hn hl kk
theorem fh_rfcat : (va_rf v).category = 1 := by cases v <;> rfl
theorem fh_ifnull (S : CallFix p m c cc nL s args Ts own) {off : Int} {tgt : Nat} (hdg : decode cc pc = .ok (.ifnull off, 3)) (ht : (pc : Int) + off = (tgt : Int))
    (kt : v = none → W p l e R s m args below meth c H locs cells slots Q (F0 m tgt ls rest)) (kf : ¬ v = none → W p l e R s m args below meth c H locs cells slots Q (F0 m (pc + 3) ls rest)) : W p l e R s m args below meth c H locs cells slots Q (F0 m pc ls (va_rf v :: rest)) := by
  cases v with
  | none => exact lv_ifnullN S.1 S.2.1 hdg ht (kt rfl)
  | some a => exact lv_ifnull S.1 S.2.1 hdg (kf (fun q => by cases q))
theorem fh_ifnonnull (S : CallFix p m c cc nL s args Ts own) {off : Int} {tgt : Nat} (hdg : decode cc pc = .ok (.ifnonnull off, 3)) (ht : (pc : Int) + off = (tgt : Int))
    (kt : ¬ v = none → W p l e R s m args below meth c H locs cells slots Q (F0 m tgt ls rest)) (kf : v = none → W p l e R s m args below meth c H locs cells slots Q (F0 m (pc + 3) ls rest)) : W p l e R s m args below meth c H locs cells slots Q (F0 m pc ls (va_rf v :: rest)) := by
  cases v with
  | none => exact lv_ifnonnullN S.1 S.2.1 hdg (kf rfl)
  | some a => exact lv_ifnonnull S.1 S.2.1 hdg ht (kt (fun q => by cases q))
/-- fields -/
theorem fh_getv (S : CallFix p m c cc nL s args Ts own) (hK : va_K D cl tys s) (hI : fh_I D cl A H0 h H locs) {C : String} {T : u_T} {N ci index a k : Nat} {fs : List Value} {x : Value} (ha : h a = some (.inr (ci, fs))) (hx : fs[k]? = some x) (hc : cl[ci]? = some (C, T, N)) (hin : ∀ w ∈ u_ws C T N, w ∈ Ts) (hk : k < N) (hlink : (Cond.fieldLink own index (T k).1 (T k).2.1 (T k).2.2.1).before args s = true) (hdg : decode cc pc = .ok (.getfield index, 3))
    (kk : W p l e R s m args below meth c H locs cells slots Q (F0 m (pc + 3) ls (x :: rest))) : W p l e R s m args below meth c H locs cells slots Q (F0 m pc ls (.ref a :: rest)) :=
  va_get S.1 S.2.1 S.2.2.2.2 hin S.2.2.2.1 hK (hI.1.one ha) 0 rfl hc k hk hlink (fun _ q => q) hx hdg kk
theorem fh_geti (S : CallFix p m c cc nL s args Ts own) (hK : va_K D cl tys s) (hI : fh_I D cl A H0 h H locs) {C : String} {T : u_T} {N ci index k : Nat} {x : Int32} (he : fg_i h v ci k = some x) (hc : cl[ci]? = some (C, T, N)) (hin : ∀ w ∈ u_ws C T N, w ∈ Ts) (hk : k < N) (hlink : (Cond.fieldLink own index (T k).1 (T k).2.1 (T k).2.2.1).before args s = true) (hdg : decode cc pc = .ok (.getfield index, 3))
    (kk : W p l e R s m args below meth c H locs cells slots Q (F0 m (pc + 3) ls (.int x :: rest))) : W p l e R s m args below meth c H locs cells slots Q (F0 m pc ls (va_rf v :: rest)) := by
  obtain ⟨a, fs, rfl, ha, hx⟩ := fg_i_s he
  exact fh_getv S hK hI ha hx hc hin hk hlink hdg kk
theorem fh_getl (S : CallFix p m c cc nL s args Ts own) (hK : va_K D cl tys s) (hI : fh_I D cl A H0 h H locs) {C : String} {T : u_T} {N ci index k : Nat} {x : Int64} (he : fg_l h v ci k = some x) (hc : cl[ci]? = some (C, T, N)) (hin : ∀ w ∈ u_ws C T N, w ∈ Ts) (hk : k < N) (hlink : (Cond.fieldLink own index (T k).1 (T k).2.1 (T k).2.2.1).before args s = true) (hdg : decode cc pc = .ok (.getfield index, 3))
    (kk : W p l e R s m args below meth c H locs cells slots Q (F0 m (pc + 3) ls (.long x :: rest))) : W p l e R s m args below meth c H locs cells slots Q (F0 m pc ls (va_rf v :: rest)) := by
  obtain ⟨a, fs, rfl, ha, hx⟩ := fg_l_s he
  exact fh_getv S hK hI ha hx hc hin hk hlink hdg kk
theorem fh_geta (S : CallFix p m c cc nL s args Ts own) (hK : va_K D cl tys s) (hI : fh_I D cl A H0 h H locs) {C : String} {T : u_T} {N ci index k : Nat} {x : Option Nat} (he : fg_a h v ci k = some x) (hc : cl[ci]? = some (C, T, N)) (hin : ∀ w ∈ u_ws C T N, w ∈ Ts) (hk : k < N) (hlink : (Cond.fieldLink own index (T k).1 (T k).2.1 (T k).2.2.1).before args s = true) (hdg : decode cc pc = .ok (.getfield index, 3))
    (kk : W p l e R s m args below meth c H locs cells slots Q (F0 m (pc + 3) ls (va_rf x :: rest))) : W p l e R s m args below meth c H locs cells slots Q (F0 m pc ls (va_rf v :: rest)) := by
  obtain ⟨a, fs, rfl, ha, hx⟩ := fg_a_s he
  exact fh_getv S hK hI ha hx hc hin hk hlink hdg kk
/-- a field that is not final -/
theorem fh_putv (S : CallFix p m c cc nL s args Ts own) (hK : va_K D cl tys s) (hI : fh_I D cl A H0 h H locs) {C : String} {T : u_T} {N ci index k : Nat} {x : Value} (he : fp_v h v ci k x = some h1) (hc : cl[ci]? = some (C, T, N)) (hin : ∀ w ∈ u_ws C T N, w ∈ Ts) {ty0 : Nat → FieldType} (hty : ∀ k, k < N → parseFieldDescriptor (T k).2.2.1 = some (ty0 k)) (hnm : ∀ a, a < N → ∀ b, b < N → a ≠ b → (T a).2.1 ≠ (T b).2.1) (hk : k < N) (hlink : (Cond.fieldLink own index (T k).1 (T k).2.1 (T k).2.2.1).before args s = true) (hfin : (T k).2.2.2 = false) (hn : narrow (ty0 k) x = x) (hfit : fits (ty0 k) x = true) (hdg : decode cc pc = .ok (.putfield index, 3))
    (kk : ∀ (H : Heap) (locs : List Loc), fh_I D cl A H0 h1 H locs → W p l e R s m args below meth c H locs cells slots Q (F0 m (pc + 3) ls rest)) : W p l e R s m args below meth c H locs cells slots Q (F0 m pc ls (x :: va_rf v :: rest)) := by
  obtain ⟨a, fs, rfl, ha, hl, rfl⟩ := fp_v_s he
  obtain ⟨q0, hq0⟩ := hI.1.ix ha
  exact va_put S.1 S.2.1 S.2.2.2.2 hin ty0 hty hnm S.2.2.2.1 hK hI.1.P hI.D hI.2.2 q0 hq0 hc k hk hlink (fun _ q => q) hfin (hty k hk) hn hfit hl hdg fun H1 locs1 hP hD hS => kk H1 locs1 (hI.set ha hq0 hP hS)
/-- a final field, in its constructor -/
theorem fh_putf (S : CallFix p m c cc nL s args Ts own) (hK : va_K D cl tys s) (hI : fh_I D cl A H0 h H locs) {C : String} {T : u_T} {N ci index k : Nat} {x : Value} (he : fp_v h v ci k x = some h1) (hc : cl[ci]? = some (C, T, N)) (hin : ∀ w ∈ u_ws C T N, w ∈ Ts) {ty0 : Nat → FieldType} (hty : ∀ k, k < N → parseFieldDescriptor (T k).2.2.1 = some (ty0 k)) (hnm : ∀ a, a < N → ∀ b, b < N → a ≠ b → (T a).2.1 ≠ (T b).2.1) (hk : k < N) (hlink : (Cond.fieldLink own index (T k).1 (T k).2.1 (T k).2.2.1).before args s = true) (hfin : (T k).2.2.2 = true) (hin2 : meth.name = "<init>") (hdecl : (T k).1 = own) (hn : narrow (ty0 k) x = x) (hfit : fits (ty0 k) x = true) (hdg : decode cc pc = .ok (.putfield index, 3))
    (kk : ∀ (H : Heap) (locs : List Loc), fh_I D cl A H0 h1 H locs → W p l e R s m args below meth c H locs cells slots Q (F0 m (pc + 3) ls rest)) : W p l e R s m args below meth c H locs cells slots Q (F0 m pc ls (x :: va_rf v :: rest)) := by
  obtain ⟨a, fs, rfl, ha, hl, rfl⟩ := fp_v_s he
  obtain ⟨q0, hq0⟩ := hI.1.ix ha
  exact va_putF S.1 S.2.1 S.2.2.2.2 hin ty0 hty hnm S.2.2.2.1 hK hI.1.P hI.D hI.2.2 q0 hq0 hc k hk hlink (fun _ q => q) hfin hin2 hdecl (hty k hk) hn hfit hl hdg fun H1 locs1 hP hD hS => kk H1 locs1 (hI.set ha hq0 hP hS)
/-- arrays -/
theorem fh_iald (S : CallFix p m c cc nL s args Ts own) (hK : va_K D cl tys s) (hI : fh_I D cl A H0 h H locs) {cA : ClassId} (t0 : Nat) (ht : tys[t0]? = some (cA, .int)) {i x : Int32} (he : fa_i cA h v i = some x) (hdg : decode cc pc = .ok (.iaload, 1))
    (kk : W p l e R s m args below meth c H locs cells slots Q (F0 m (pc + 1) ls (.int x :: rest))) : W p l e R s m args below meth c H locs cells slots Q (F0 m pc ls (.int i :: va_rf v :: rest)) := by
  obtain ⟨a, n, f, rfl, ha, hi, rfl⟩ := fa_i_s he
  exact va_iald S.1 S.2.1 hK (hI.1.one ha) 0 t0 rfl ht hi hdg kk
theorem fh_lald (S : CallFix p m c cc nL s args Ts own) (hK : va_K D cl tys s) (hI : fh_I D cl A H0 h H locs) {cA : ClassId} (t0 : Nat) (ht : tys[t0]? = some (cA, .long)) {i : Int32} {x : Int64} (he : fa_l cA h v i = some x) (hdg : decode cc pc = .ok (.laload, 1))
    (kk : W p l e R s m args below meth c H locs cells slots Q (F0 m (pc + 1) ls (.long x :: rest))) : W p l e R s m args below meth c H locs cells slots Q (F0 m pc ls (.int i :: va_rf v :: rest)) := by
  obtain ⟨a, n, f, rfl, ha, hi, rfl⟩ := fa_l_s he
  exact va_lald S.1 S.2.1 hK (hI.1.one ha) 0 t0 rfl ht hi hdg kk
theorem fh_aald (S : CallFix p m c cc nL s args Ts own) (hK : va_K D cl tys s) (hI : fh_I D cl A H0 h H locs) {cA : ClassId} {C : String} (t0 : Nat) (ht : tys[t0]? = some (cA, .object C)) {i : Int32} {x : Option Nat} (he : fa_a cA h v i = some x) (hdg : decode cc pc = .ok (.aaload, 1))
    (kk : W p l e R s m args below meth c H locs cells slots Q (F0 m (pc + 1) ls (va_rf x :: rest))) : W p l e R s m args below meth c H locs cells slots Q (F0 m pc ls (.int i :: va_rf v :: rest)) := by
  obtain ⟨a, n, f, rfl, ha, hi, rfl⟩ := fa_a_s he
  exact va_aldq S.1 S.2.1 hK (hI.1.one ha) 0 t0 rfl ht hi hdg kk
theorem fh_alen (S : CallFix p m c cc nL s args Ts own) (hK : va_K D cl tys s) (hI : fh_I D cl A H0 h H locs) {cA : ClassId} {ty : FieldType} (t0 : Nat) (ht : tys[t0]? = some (cA, ty)) {x : Int32} (he : fl_n cA h v = some x) (hdg : decode cc pc = .ok (.arraylength, 1))
    (kk : W p l e R s m args below meth c H locs cells slots Q (F0 m (pc + 1) ls (.int x :: rest))) : W p l e R s m args below meth c H locs cells slots Q (F0 m pc ls (va_rf v :: rest)) := by
  obtain ⟨a, y, rfl, ha, rfl⟩ := fl_n_s he
  exact va_alen S.1 S.2.1 hK (hI.1.one ha) 0 t0 rfl ht rfl hdg kk
theorem fh_iast (S : CallFix p m c cc nL s args Ts own) (hK : va_K D cl tys s) (hI : fh_I D cl A H0 h H locs) {cA : ClassId} (t0 : Nat) (ht : tys[t0]? = some (cA, .int)) {i x : Int32} (he : fs_i cA h v i x = some h1) (hdg : decode cc pc = .ok (.iastore, 1))
    (kk : ∀ (H : Heap) (locs : List Loc), fh_I D cl A H0 h1 H locs → W p l e R s m args below meth c H locs cells slots Q (F0 m (pc + 1) ls rest)) : W p l e R s m args below meth c H locs cells slots Q (F0 m pc ls (.int x :: .int i :: va_rf v :: rest)) := by
  obtain ⟨a, n, f, rfl, ha, hi, rfl⟩ := fs_i_s he
  obtain ⟨q0, hq0⟩ := hI.1.ix ha
  exact va_iast S.1 S.2.1 hK hI.1.P hI.D hI.2.2 q0 t0 hq0 ht hi hdg fun H1 locs1 hP hD hS => kk H1 locs1 (hI.set ha hq0 hP hS)
theorem fh_last (S : CallFix p m c cc nL s args Ts own) (hK : va_K D cl tys s) (hI : fh_I D cl A H0 h H locs) {cA : ClassId} (t0 : Nat) (ht : tys[t0]? = some (cA, .long)) {i : Int32} {x : Int64} (he : fs_l cA h v i x = some h1) (hdg : decode cc pc = .ok (.lastore, 1))
    (kk : ∀ (H : Heap) (locs : List Loc), fh_I D cl A H0 h1 H locs → W p l e R s m args below meth c H locs cells slots Q (F0 m (pc + 1) ls rest)) : W p l e R s m args below meth c H locs cells slots Q (F0 m pc ls (.long x :: .int i :: va_rf v :: rest)) := by
  obtain ⟨a, n, f, rfl, ha, hi, rfl⟩ := fs_l_s he
  obtain ⟨q0, hq0⟩ := hI.1.ix ha
  exact va_last S.1 S.2.1 hK hI.1.P hI.D hI.2.2 q0 t0 hq0 ht hi hdg fun H1 locs1 hP hD hS => kk H1 locs1 (hI.set ha hq0 hP hS)
theorem fh_aast (S : CallFix p m c cc nL s args Ts own) (hK : va_K D cl tys s) (hI : fh_I D cl A H0 h H locs) {cA : ClassId} {r : vw_C} {ci : Nat} {x : Option Nat} (t0 : Nat) (ht : tys[t0]? = some (cA, .object r.1)) (hc : cl[ci]? = some r) {i : Int32} (he : fs_a cA ci h v i x = some h1) (hdg : decode cc pc = .ok (.aastore, 1))
    (kk : ∀ (H : Heap) (locs : List Loc), fh_I D cl A H0 h1 H locs → W p l e R s m args below meth c H locs cells slots Q (F0 m (pc + 1) ls rest)) : W p l e R s m args below meth c H locs cells slots Q (F0 m pc ls (va_rf x :: .int i :: va_rf v :: rest)) := by
  obtain ⟨a, b, n, f, fs, rfl, rfl, ha, hb, hi, rfl⟩ := fs_a_s he
  obtain ⟨q0, hq0⟩ := hI.1.ix ha
  obtain ⟨qk, hqk⟩ := hI.1.ix hb
  exact va_astq S.1 S.2.1 hK hI.1.P hI.D hI.2.2 q0 t0 qk ci hq0 ht hqk hc hi hdg fun H1 locs1 hP hD hS => kk H1 locs1 (hI.set ha hq0 hP hS)
/-- tables -/
theorem fh_gett {Tb : List fh_Tab} (S : CallFix p m c cc nL s args Ts own) (hT : fh_T Tb A s s.heap) (hI : fh_I D cl A s.heap h H locs) {index k : Nat} {q : fh_Tab} (hq : Tb[k]? = some q) (hlink : (Cond.fieldLink own index q.1.1 q.1.2.1 q.1.2.2).before args s = true) (hdg : decode cc pc = .ok (.getstatic index, 3))
    (kk : W p l e R s m args below meth c H locs cells slots Q (F0 m (pc + 3) ls (.ref q.2.2.1 :: rest))) : W p l e R s m args below meth c H locs cells slots Q (F0 m pc ls rest) :=
  va_gets S.1 S.2.1 (hT k q hq).1 hI.2.2 S.2.2.2.1 hlink (fun _ z => z) hdg kk
theorem fh_tald {Tb : List fh_Tab} (S : CallFix p m c cc nL s args Ts own) (hT : fh_T Tb A s s.heap) (hI : fh_I D cl A s.heap h H locs) {k t N : Nat} {nm : String × String × String} {f : Nat → Int32} (hq : Tb[k]? = some (nm, .int, t, N, fun j => .int (f j))) {i x : Int32} (he : ft_i N f i = some x) (hdg : decode cc pc = .ok (.iaload, 1))
    (kk : W p l e R s m args below meth c H locs cells slots Q (F0 m (pc + 1) ls (.int x :: rest))) : W p l e R s m args below meth c H locs cells slots Q (F0 m pc ls (.int i :: .ref t :: rest)) := by
  obtain ⟨hi, rfl⟩ := ft_i_s he
  exact va_ti S.1 S.2.1 (hT k _ hq).2 hI.2.2 hi rfl hdg kk
theorem fh_tlen {Tb : List fh_Tab} (S : CallFix p m c cc nL s args Ts own) (hT : fh_T Tb A s s.heap) (hI : fh_I D cl A s.heap h H locs) {k : Nat} {q : fh_Tab} (hq : Tb[k]? = some q) {x : Int32} (hx : Int32.ofNat q.2.2.2.1 = x) (hdg : decode cc pc = .ok (.arraylength, 1))
    (kk : W p l e R s m args below meth c H locs cells slots Q (F0 m (pc + 1) ls (.int x :: rest))) : W p l e R s m args below meth c H locs cells slots Q (F0 m pc ls (.ref q.2.2.1 :: rest)) :=
  va_tlen S.1 S.2.1 (hT k q hq).2 hI.2.2 hx hdg kk
theorem fh_irem (S : CallFix p m c cc nL s args Ts own) {x y : Int32} (hdg : decode cc pc = .ok (.irem, 1)) (hne : ¬ y = 0) (k : W p l e R s m args below meth c H locs cells slots Q (F0 m (pc + 1) ls (.int (fr_i x y) :: rest))) : W p l e R s m args below meth c H locs cells slots Q (F0 m pc ls (.int y :: .int x :: rest)) := lv_irem S.1 S.2.1 hdg hne k
theorem fh_lrem (S : CallFix p m c cc nL s args Ts own) {x y : Int64} (hdg : decode cc pc = .ok (.lrem, 1)) (hne : ¬ y = 0) (k : W p l e R s m args below meth c H locs cells slots Q (F0 m (pc + 1) ls (.long (fr_l x y) :: rest))) : W p l e R s m args below meth c H locs cells slots Q (F0 m pc ls (.long y :: .long x :: rest)) := lv_lrem S.1 S.2.1 hdg hne k
theorem fh_topi {x y : Int32} (hq : some x = some y) (k : W p l e R s m args below meth c H locs cells slots Q (F0 m pc ls (.int y :: rest))) : W p l e R s m args below meth c H locs cells slots Q (F0 m pc ls (.int x :: rest)) := by
  cases hq
  exact k
theorem fh_topl {x y : Int64} (hq : some x = some y) (k : W p l e R s m args below meth c H locs cells slots Q (F0 m pc ls (.long y :: rest))) : W p l e R s m args below meth c H locs cells slots Q (F0 m pc ls (.long x :: rest)) := by
  cases hq
  exact k
theorem fh_topa {x y : Option Nat} (hq : some x = some y) (k : W p l e R s m args below meth c H locs cells slots Q (F0 m pc ls (va_rf y :: rest))) : W p l e R s m args below meth c H locs cells slots Q (F0 m pc ls (va_rf x :: rest)) := by
  cases hq
  exact k
theorem fh_putz (S : CallFix p m c cc nL s args Ts own) (hK : va_K D cl tys s) (hI : fh_I D cl A H0 h H locs) {C : String} {T : u_T} {N ci index k : Nat} {x : Int32} (he : fp_z h v ci k x = some h1) (hc : cl[ci]? = some (C, T, N)) (hin : ∀ w ∈ u_ws C T N, w ∈ Ts) {ty0 : Nat → FieldType} (hty : ∀ k, k < N → parseFieldDescriptor (T k).2.2.1 = some (ty0 k)) (hnm : ∀ a, a < N → ∀ b, b < N → a ≠ b → (T a).2.1 ≠ (T b).2.1) (hk : k < N) (hlink : (Cond.fieldLink own index (T k).1 (T k).2.1 (T k).2.2.1).before args s = true) (hfin : (T k).2.2.2 = false) (hbo : ty0 k = .boolean) (hdg : decode cc pc = .ok (.putfield index, 3))
    (kk : ∀ (H : Heap) (locs : List Loc), fh_I D cl A H0 h1 H locs → W p l e R s m args below meth c H locs cells slots Q (F0 m (pc + 3) ls rest)) : W p l e R s m args below meth c H locs cells slots Q (F0 m pc ls (.int x :: va_rf v :: rest)) := by
  obtain ⟨hz, he⟩ := fp_z_s he
  exact fh_putv S hK hI he hc hin hty hnm hk hlink hfin (by rw [hbo]; exact fh_nb hz) (by rw [hbo]; exact fh_fb hz) hdg kk
theorem fh_zald (S : CallFix p m c cc nL s args Ts own) (hK : va_K D cl tys s) (hI : fh_I D cl A H0 h H locs) {cA : ClassId} (t0 : Nat) (ht : tys[t0]? = some (cA, .boolean)) {i x : Int32} (he : fa_i cA h v i = some x) (hdg : decode cc pc = .ok (.baload, 1))
    (kk : W p l e R s m args below meth c H locs cells slots Q (F0 m (pc + 1) ls (.int x :: rest))) : W p l e R s m args below meth c H locs cells slots Q (F0 m pc ls (.int i :: va_rf v :: rest)) := by
  obtain ⟨a, n, f, rfl, ha, hi, rfl⟩ := fa_i_s he
  exact va_zald S.1 S.2.1 hK (hI.1.one ha) 0 t0 rfl ht hi hdg kk
theorem fh_zast (S : CallFix p m c cc nL s args Ts own) (hK : va_K D cl tys s) (hI : fh_I D cl A H0 h H locs) {cA : ClassId} (t0 : Nat) (ht : tys[t0]? = some (cA, .boolean)) {i x : Int32} (he : fs_z cA h v i x = some h1) (hdg : decode cc pc = .ok (.bastore, 1))
    (kk : ∀ (H : Heap) (locs : List Loc), fh_I D cl A H0 h1 H locs → W p l e R s m args below meth c H locs cells slots Q (F0 m (pc + 1) ls rest)) : W p l e R s m args below meth c H locs cells slots Q (F0 m pc ls (.int x :: .int i :: va_rf v :: rest)) := by
  obtain ⟨hz, he⟩ := fs_z_s he
  obtain ⟨a, n, f, rfl, ha, hi, rfl⟩ := fs_i_s he
  obtain ⟨q0, hq0⟩ := hI.1.ix ha
  exact va_zast S.1 S.2.1 hK hI.1.P hI.D hI.2.2 q0 t0 hq0 ht hi hdg fun H1 locs1 hP hD hS => kk H1 locs1 (by
    rw [fh_vb hz] at hP
    exact hI.set ha hq0 hP hS)
theorem fh_gettN {Tb : List fh_Tab} {host : String} (S : CallFix p m c cc nL s args Ts own) (hT : fh_T Tb A s s.heap) (hI : fh_I D cl A s.heap h H locs) {index k : Nat} {q : fh_Tab} (hq : Tb[k]? = some q) (hlink : va_Nw (Cond.fieldLinkNest own index q.1.1 q.1.2.1 q.1.2.2 host) s) (hdg : decode cc pc = .ok (.getstatic index, 3))
    (kk : W p l e R s m args below meth c H locs cells slots Q (F0 m (pc + 3) ls (.ref q.2.2.1 :: rest))) : W p l e R s m args below meth c H locs cells slots Q (F0 m pc ls rest) :=
  va_getsN S.1 S.2.1 (hT k q hq).1 hI.2.2 S.2.2.2.1 (va_Nw.use rfl hlink) (fun _ z => z) hdg kk
end FHW
/-! contracts: where the function answers (v, h'), the method ends so -/
def fh_pre (D : va_G) (cl : List vw_C) (tys : List (ClassId × FieldType)) (Tb : List fh_Tab) (NW : List Cond) (h : fh_H) (sz : Nat) : State → Prop := fun U =>
  U.heap.size = sz ∧ fh_R D cl h U.heap ∧ va_K D cl tys U ∧ fh_T Tb (fh_A h sz) U U.heap ∧ fh_N NW U
def fh_Q (D : va_G) (cl : List vw_C) (h : fh_H) (sz : Nat) (v : Option Value) (h' : fh_H) : Array Value → State → Outcome → State → Prop := fun _ st oc t =>
  oc = .returned v ∧ fh_R D cl h' t.heap ∧ (∀ (a : Nat) (e : va_E), h' a = some e → fh_A h sz a) ∧ va_F (fh_A h sz) st t
def fh_C (l : Launch) (y : MethodName) (ws : List Cond) (rm : Room) (D : va_G) (cl : List vw_C) (tys : List (ClassId × FieldType)) (Tb : List fh_Tab) (NW : List Cond) (vs : List Value) (h : fh_H) (v : Option Value) (h' : fh_H) : Prop :=
  ∀ sz : Nat, Met l y ws rm (va_Pc vs (fh_pre D cl tys Tb NW h sz)) (fh_Q D cl h sz v h') 0 0 (fh_A h sz)
/-- the words of the tables that any call keeps -/
def fh_good (w : Cond) : Bool := (w.onTables && w.keeps) || (match w with
  | .arrayClass _ => true
  | _ => false)
def fh_Good (Ts : List Cond) : Prop := ∀ w ∈ Ts, fh_good w = true
theorem fh_good_s {w : Cond} (h : fh_good w = true) : (w.onTables && w.keeps) = true ∨ ∃ ty, w = .arrayClass ty := by
  unfold fh_good at h
  rw [Bool.or_eq_true] at h
  rcases h with h | h
  · exact Or.inl h
  · split at h
    · exact Or.inr ⟨_, rfl⟩
    · cases h
theorem fh_Good.in {Ts ws : List Cond} (hg : fh_Good Ts) (h : ∀ w ∈ ws, w ∈ Ts) : GoodIn Ts ws := fun w hw => ⟨h w hw, fh_good_s (hg w (h w hw))⟩
theorem fh_Good.cons {Ts : List Cond} (hg : fh_Good Ts) {x : Cond} (hx : x ∈ Ts) : GoodIn Ts (x :: Ts) := hg.in (fun w hw => by
  rcases List.mem_cons.mp hw with h | h
  · rw [h]; exact hx
  · exact h)
theorem fh_blind {D : va_G} {cl : List vw_C} {tys : List (ClassId × FieldType)} {Tb : List fh_Tab} {NW : List Cond} {h : fh_H} {sz : Nat} {vs : List Value} : FrameBlind (va_Pc vs (fh_pre D cl tys Tb NW h sz)) := by
  intro a U g mk q
  obtain ⟨q0, q1, q2, q3, q4, q5⟩ := q
  exact ⟨q0, q1, q2, va_K.moved (u := U) (U := U.calling g mk a) (Vm.Alike.refl U.vm) q3, fh_T.moved (u := U) (U := U.calling g mk a) (Vm.Alike.refl U.vm) q4, fh_N.warm (s := U) (U := U.calling g mk a) (State.WarmedH.refl U) q5⟩
/-- what a method's body knows of its start, beside its own room -/
def fh_E (D : va_G) (cl : List vw_C) (tys : List (ClassId × FieldType)) (Tb : List fh_Tab) (NW : List Cond) (A : Nat → Prop) (s : State) : Prop :=
  va_K D cl tys s ∧ fh_T Tb A s s.heap ∧ fh_N NW s ∧ ∀ q : Nat, s.heap.size ≤ q → A q
theorem fh_E.sub {D : va_G} {cl : List vw_C} {tys : List (ClassId × FieldType)} {Tb : List fh_Tab} {NW : List Cond} {A : Nat → Prop} {s : State} {h : fh_H} {H : Heap} {locs : List Loc} (hE : fh_E D cl tys Tb NW A s) (hI : fh_I D cl A s.heap h H locs) : ∀ q, fh_A h H.size q → A q := by
  intro q hq
  rcases hq with ⟨x, hx⟩ | hq
  · exact hI.2.1 q x hx
  · exact hE.2.2.2 q (Nat.le_trans hI.2.2.1 hq)
theorem fh_E.pre {D : va_G} {cl : List vw_C} {tys : List (ClassId × FieldType)} {Tb : List fh_Tab} {NW : List Cond} {A : Nat → Prop} {s : State} {h : fh_H} {H : Heap} {locs : List Loc} (hE : fh_E D cl tys Tb NW A s) (hI : fh_I D cl A s.heap h H locs) {U : State} (hU : U.heap = H) (hW : s.WarmedH U.vm) : fh_pre D cl tys Tb NW h H.size U := by
  refine ⟨by rw [hU], by rw [hU]; exact hI.1, hE.1.moved hW.alike, ?_, hE.2.2.1.warm hW⟩
  rw [hU]
  exact ((hE.2.1.kept (fun a h1 h2 => hI.2.2.2.1 a h1 h2)).moved hW.alike).narrow (hE.sub hI)
section FHC
variable {p : Program} {l : Launch} {e : Env} {R : Room} {s : State} {m : MethodId} {args : Array Value} {below : List Frame} {meth : Method} {c : Code} {H : Heap} {locs : List Loc} {cells slots : Nat} {Q : State → Prop}
variable {cc : ByteArray} {nL pc : Nat} {ls : Array Slot} {rest st0 : List Value} {D : va_G} {cl : List vw_C} {A : Nat → Prop} {tys : List (ClassId × FieldType)} {Tb : List fh_Tab} {NW : List Cond} {h h1 : fh_H} {Ts : List Cond} {own : String}
variable {y : MethodName} {bytes : ByteArray} {maxL n index : Nat} {ret : Option FieldType} {rm : Room} {As : List Value} {v : Option Value}
theorem fh_call {a : Array Value} (hr : va_Run p l e R s m args below meth c H locs cells slots 0 0 (F0 m pc ls st0) rest (fh_Q D cl h H.size v h1 a) (fh_A h H.size)) (hE : fh_E D cl tys Tb NW A s) (hI : fh_I D cl A s.heap h H locs)
    (kk : ∀ (H : Heap) (locs : List Loc), fh_I D cl A s.heap h1 H locs → W p l e R s m args below meth c H locs cells slots Q (F0 m (pc + 3) ls (v.toList ++ rest))) : W p l e R s m args below meth c H locs cells slots Q (F0 m pc ls st0) := by
  intro T hT X
  obtain ⟨v', st₀, t, T', L, h0, X', hL, e1, e2, ⟨hv, hR, hdom, hz, hk⟩, st⟩ := hr T hT X
  cases hv
  rw [h0] at hz hk
  have hAA := hE.sub hI
  obtain ⟨t2, a1, b1⟩ := kk T'.heap (locs ++ L) ⟨by rw [e1]; exact hR, fun b x hx => hAA b (hdom b x hx), ⟨Nat.le_trans hI.2.2.1 (by rw [e1]; exact hz), fun q g1 g2 => by
    rw [e1, hk q (Nat.lt_of_lt_of_le g1 hI.2.2.1) (fun z => g2 (hAA q z))]
    exact hI.2.2.2.1 q g1 g2, fun q hq => by
    rcases List.mem_append.mp hq with g | g
    · exact hI.2.2.2.2 q g
    · exact hAA _ (hL q g)⟩⟩ T' rfl X'
  exact ⟨t2, st t2 a1, b1⟩
/-- what a caller must know of a method: its words in the tables -/
def fh_Y (Ts : List Cond) (y : MethodName) (bytes : ByteArray) (maxL : Nat) (ret : Option FieldType) (n : Nat) : Prop :=
  Cond.code y bytes maxL ret ∈ Ts ∧ Cond.initialized y.cls ∈ Ts ∧ y.cls ≠ "java/lang/invoke/MethodHandle" ∧ y.cls ≠ "java/lang/invoke/VarHandle" ∧ (parseMethodDescriptor y.desc).map (fun d => d.parameters.length) = some n
theorem fh_callS (S : CallFix p m c cc nL s args Ts own) (hg : fh_Good Ts) (hE : fh_E D cl tys Tb NW A s) (hI : fh_I D cl A s.heap h H locs) (hM : fh_C l y (Cond.code y bytes maxL ret :: Ts) rm D cl tys Tb NW As h v h1) (hy : fh_Y Ts y bytes maxL ret n) (hst : Cond.static y ∈ Ts) (hlink : Cond.methodLink own index y ∈ Ts) (hrc : rm.cells = 0 ∧ rm.slots = 0) (hR : rm.frames + 1 ≤ R.frames ∧ 8 + (maxL + 11) + rm.locals ≤ R.locals) (hf : cells ≤ R.cells ∧ slots ≤ R.slots)
    (hn : As.length = n) (hsize : ls.size = nL) (hstack : st0 = As.reverse ++ rest) (hW : (rest.map fun v => v.category).sum ≤ 8) (hdg : decode cc pc = .ok (.invokestatic index, 3))
    (kk : ∀ (H : Heap) (locs : List Loc), fh_I D cl A s.heap h1 H locs → W p l e R s m args below meth c H locs cells slots Q (F0 m (pc + 3) ls (v.toList ++ rest))) : W p l e R s m args below meth c H locs cells slots Q (F0 m pc ls st0) :=
  fh_call (a := As.toArray) (va_runS (g := F0 m pc ls st0) S (hM H.size) ⟨callB_of n S.2.2.2.2 (hg.cons hy.1) rfl hrc.1 hrc.2 (S.2.2.2.2 _ hy.2.1) (S.2.2.2.2 _ hlink) hy.2.2 hR, S.2.2.2.2 _ hst⟩ ⟨fh_blind, fun U hU hW => ⟨rfl, hE.pre hI hU hW⟩⟩ rfl hn hsize hstack (lv_room hW) hdg hf) hE hI kk
theorem fh_callSN {host : String} (S : CallFix p m c cc nL s args Ts own) (hg : fh_Good Ts) (hE : fh_E D cl tys Tb NW A s) (hI : fh_I D cl A s.heap h H locs) (hM : fh_C l y (Cond.code y bytes maxL ret :: Ts) rm D cl tys Tb NW As h v h1) (hy : fh_Y Ts y bytes maxL ret n) (hst : Cond.static y ∈ Ts) (hlink : Cond.methodLinkNest own index y host ∈ NW) (hrc : rm.cells = 0 ∧ rm.slots = 0) (hR : rm.frames + 1 ≤ R.frames ∧ 8 + (maxL + 11) + rm.locals ≤ R.locals) (hf : cells ≤ R.cells ∧ slots ≤ R.slots)
    (hn : As.length = n) (hsize : ls.size = nL) (hstack : st0 = As.reverse ++ rest) (hW : (rest.map fun v => v.category).sum ≤ 8) (hdg : decode cc pc = .ok (.invokestatic index, 3))
    (kk : ∀ (H : Heap) (locs : List Loc), fh_I D cl A s.heap h1 H locs → W p l e R s m args below meth c H locs cells slots Q (F0 m (pc + 3) ls (v.toList ++ rest))) : W p l e R s m args below meth c H locs cells slots Q (F0 m pc ls st0) :=
  fh_call (a := As.toArray) (va_runSN (g := F0 m pc ls st0) S (hM H.size) ⟨va_cnB n S.2.2.2.2 (hg.cons hy.1) rfl hrc.1 hrc.2 (hE.2.2.1 _ hlink).2 (S.2.2.2.2 _ hy.2.1) hy.2.2 hR, S.2.2.2.2 _ hst, trivial⟩ ⟨fh_blind, fun U hU hW => ⟨rfl, hE.pre hI hU hW⟩⟩ rfl hn hsize hstack (lv_room hW) hdg hf) hE hI kk
theorem fh_callV {b ci : Nat} {v0 : Option Nat} {C : String} {T : u_T} {N : Nat} (S : CallFix p m c cc nL s args Ts own) (hg : fh_Good Ts) (hE : fh_E D cl tys Tb NW A s) (hI : fh_I D cl A s.heap h H locs) (ho : fg_o h v0 ci = some b) (hc : cl[ci]? = some (C, T, N)) (hM : fh_C l y (Cond.code y bytes maxL ret :: Ts) rm D cl tys Tb NW (.ref b :: As) h v h1) (hy : fh_Y Ts y bytes maxL ret n) (hst : Cond.instanceMethod y ∈ Ts ∧ Cond.selects C y y ∈ Ts) (hlink : Cond.methodLink own index y ∈ Ts) (hrc : rm.cells = 0 ∧ rm.slots = 0) (hR : rm.frames + 1 ≤ R.frames ∧ 8 + (maxL + 11) + rm.locals ≤ R.locals) (hf : cells ≤ R.cells ∧ slots ≤ R.slots)
    (hn : As.length = n) (hsize : ls.size = nL) (hstack : st0 = As.reverse ++ va_rf v0 :: rest) (hW : (rest.map fun v => v.category).sum ≤ 8) (hdg : decode cc pc = .ok (.invokevirtual index, 3))
    (kk : ∀ (H : Heap) (locs : List Loc), fh_I D cl A s.heap h1 H locs → W p l e R s m args below meth c H locs cells slots Q (F0 m (pc + 3) ls (v.toList ++ rest))) : W p l e R s m args below meth c H locs cells slots Q (F0 m pc ls st0) := by
  obtain ⟨fs, rfl, hb⟩ := fg_o_s ho
  exact fh_call (a := (Value.ref b :: As).toArray) (va_runV (g := F0 m pc ls st0) (C := C) S (hM H.size) ⟨callB_of n S.2.2.2.2 (hg.cons hy.1) rfl hrc.1 hrc.2 (S.2.2.2.2 _ hy.2.1) (S.2.2.2.2 _ hlink) hy.2.2 hR, S.2.2.2.2 _ hst.1, S.2.2.2.2 _ hst.2⟩ ⟨fh_blind, va_recv hE.1 (hI.1.one hb) hc (q0 := 0) rfl, fun U hU hW => ⟨rfl, hE.pre hI hU hW⟩⟩ rfl hn hsize hstack (lv_room hW) hdg hf) hE hI kk
theorem fh_callVN {host : String} {b ci : Nat} {v0 : Option Nat} {C : String} {T : u_T} {N : Nat} (S : CallFix p m c cc nL s args Ts own) (hg : fh_Good Ts) (hE : fh_E D cl tys Tb NW A s) (hI : fh_I D cl A s.heap h H locs) (ho : fg_o h v0 ci = some b) (hc : cl[ci]? = some (C, T, N)) (hM : fh_C l y (Cond.code y bytes maxL ret :: Ts) rm D cl tys Tb NW (.ref b :: As) h v h1) (hy : fh_Y Ts y bytes maxL ret n) (hst : Cond.instanceMethod y ∈ Ts ∧ Cond.selects C y y ∈ Ts) (hlink : Cond.methodLinkNest own index y host ∈ NW) (hrc : rm.cells = 0 ∧ rm.slots = 0) (hR : rm.frames + 1 ≤ R.frames ∧ 8 + (maxL + 11) + rm.locals ≤ R.locals) (hf : cells ≤ R.cells ∧ slots ≤ R.slots)
    (hn : As.length = n) (hsize : ls.size = nL) (hstack : st0 = As.reverse ++ va_rf v0 :: rest) (hW : (rest.map fun v => v.category).sum ≤ 8) (hdg : decode cc pc = .ok (.invokevirtual index, 3))
    (kk : ∀ (H : Heap) (locs : List Loc), fh_I D cl A s.heap h1 H locs → W p l e R s m args below meth c H locs cells slots Q (F0 m (pc + 3) ls (v.toList ++ rest))) : W p l e R s m args below meth c H locs cells slots Q (F0 m pc ls st0) := by
  obtain ⟨fs, rfl, hb⟩ := fg_o_s ho
  exact fh_call (a := (Value.ref b :: As).toArray) (va_runVN (g := F0 m pc ls st0) (C := C) S (hM H.size) ⟨va_cnB n S.2.2.2.2 (hg.cons hy.1) rfl hrc.1 hrc.2 (hE.2.2.1 _ hlink).2 (S.2.2.2.2 _ hy.2.1) hy.2.2 hR, S.2.2.2.2 _ hst.1, S.2.2.2.2 _ hst.2⟩ ⟨fh_blind, va_recv hE.1 (hI.1.one hb) hc (q0 := 0) rfl, fun U hU hW => ⟨rfl, hE.pre hI hU hW⟩⟩ rfl hn hsize hstack (lv_room hW) hdg hf) hE hI kk
/-- a method's body -/
theorem fh_body {vs : List Value} {h' : fh_H} (hy : plainName y.cls = true) (hvs : (lg_sl vs).length ≤ maxL)
    (body : ∀ (p : Program) (e : Env) (s : State) (m : MethodId) (below : List Frame) (meth : Method) (c : Code) (A : Nat → Prop) (ls : Array Slot), CallFix p m c cc maxL s vs.toArray Ts y.cls → meth.sig.returnType = ret → meth.locks = false → meth.name = y.name → fh_E D cl tys Tb NW A s → A = fh_A h s.heap.size → fh_I D cl A s.heap h s.heap [] → lv_has ls maxL (lv_args 0 vs) →
      W p l e rm s m vs.toArray below meth c s.heap [] 0 0 (MQ below (fh_Q D cl h s.heap.size v h') vs.toArray s 0 0 A) (F0 m 0 ls [])) : fh_C l y (Cond.code y cc maxL ret :: Ts) rm D cl tys Tb NW vs h v h' := by
  intro sz
  refine Met.ofW (cc := cc) (maxL := maxL) (ret := ret) hy rfl ?_
  intro p e s m args below meth c s₁ B hml hv
  obtain ⟨rfl, rfl, hR, hK, hT, hN⟩ := hv
  have hts := atoms_spec (ws := Cond.code y cc maxL ret :: Ts) B.pre
  rw [lg_entry_eq]
  exact body p e s m below meth c (fh_A h s.heap.size) _ ⟨B.exec, B.bytes, hml, findClass_of_methodNamed B.named, fun w hw => hts w (List.mem_cons_of_mem _ hw)⟩ B.returns B.notSynchronized (name_of_methodNamed B.named B.method).1 ⟨hK, hT, hN, fun q hq => Or.inr hq⟩ rfl ⟨hR, fun a x hx => Or.inl ⟨x, hx⟩, va_S.rf⟩ (lv_entry vs hvs)
/-- a method's ends -/
theorem fh_iret {h' : fh_H} {x : Int32} {ty : FieldType} (S : CallFix p m c cc nL s args Ts own) (hr : meth.sig.returnType = some ty) (hk : meth.locks = false) (hn : narrow ty (.int x) = .int x) (hA : A = fh_A h s.heap.size) (hI : fh_I D cl A s.heap h' H locs) (hdg : decode cc pc = .ok (.ireturn, 1)) :
    W p l e R s m args below meth c H locs 0 0 (MQ below (fh_Q D cl h s.heap.size (some (.int x)) h') args s 0 0 A) (F0 m pc ls [.int x]) := by
  subst hA
  exact W.zret S.1 S.2.1 hr hn (fun t ht hW => ⟨rfl, by rw [ht]; exact hI.1, hI.2.1, hI.2.2.F ht⟩) hI.2.2.2.2 hdg hk
theorem fh_lret {h' : fh_H} {x : Int64} (S : CallFix p m c cc nL s args Ts own) (hr : meth.sig.returnType = some .long) (hk : meth.locks = false) (hA : A = fh_A h s.heap.size) (hI : fh_I D cl A s.heap h' H locs) (hdg : decode cc pc = .ok (.lreturn, 1)) :
    W p l e R s m args below meth c H locs 0 0 (MQ below (fh_Q D cl h s.heap.size (some (.long x)) h') args s 0 0 A) (F0 m pc ls [.long x]) := by
  subst hA
  exact W.lret S.1 S.2.1 hr (fun t ht hW => ⟨rfl, by rw [ht]; exact hI.1, hI.2.1, hI.2.2.F ht⟩) hI.2.2.2.2 hdg hk
theorem fh_vret {h' : fh_H} (S : CallFix p m c cc nL s args Ts own) (hr : meth.sig.returnType = none) (hk : meth.locks = false) (hA : A = fh_A h s.heap.size) (hI : fh_I D cl A s.heap h' H locs) (hdg : decode cc pc = .ok (.return_, 1)) :
    W p l e R s m args below meth c H locs 0 0 (MQ below (fh_Q D cl h s.heap.size none h') args s 0 0 A) (F0 m pc ls []) := by
  subst hA
  exact W.vret S.1 S.2.1 hr (fun t ht hW => ⟨rfl, by rw [ht]; exact hI.1, hI.2.1, hI.2.2.F ht⟩) hI.2.2.2.2 hdg hk
theorem fh_aret {h' : fh_H} {x : Option Nat} {rt : FieldType} (S : CallFix p m c cc nL s args Ts own) (hr : meth.sig.returnType = some rt) (hrt : (∃ n, rt = .object n) ∨ ∃ t, rt = .array t) (hk : meth.locks = false) (hA : A = fh_A h s.heap.size) (hI : fh_I D cl A s.heap h' H locs) (hdg : decode cc pc = .ok (.areturn, 1)) :
    W p l e R s m args below meth c H locs 0 0 (MQ below (fh_Q D cl h s.heap.size (some (va_rf x)) h') args s 0 0 A) (F0 m pc ls [va_rf x]) := by
  subst hA
  exact W.aret S.1 S.2.1 hr hrt (by cases x with
    | none => exact Or.inl rfl
    | some a => exact Or.inr ⟨a, rfl⟩) (fun t ht hW => ⟨rfl, by rw [ht]; exact hI.1, hI.2.1, hI.2.2.F ht⟩) hI.2.2.2.2 hdg hk
end FHC
