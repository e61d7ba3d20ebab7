/-! a figure's run over its points -/
def inP (q : Int × Int) : Prop := (0 ≤ q.1 ∧ q.1 < 1000003) ∧ (0 ≤ q.2 ∧ q.2 < 1000003)
theorem md_in (x : Int) : 0 ≤ x % 1000003 ∧ x % 1000003 < 1000003 := ⟨Int.emod_nonneg _ (by omega), Int.emod_lt_of_pos _ (by omega)⟩
theorem inP_md (x y : Int) : inP (x % 1000003, y % 1000003) := ⟨md_in x, md_in y⟩
theorem inP_some {x y : Int} {q : Int × Int} (h : some (x % 1000003, y % 1000003) = some q) : inP q := by
  obtain rfl := Option.some.inj h
  exact inP_md x y
theorem inP_if {c : Prop} [Decidable c] {x y : Int} {q : Int × Int} (h : (if c then none else some (x % 1000003, y % 1000003)) = some q) : inP q := by
  split at h
  · cases h
  · exact inP_some h
theorem inP_map {o : Option (Int × Int)} {f g : Int × Int → Int} {q : Int × Int} (h : o.map (fun w => (f w % 1000003, g w % 1000003)) = some q) : inP q := by
  cases o with
  | none => cases h
  | some w => exact inP_some h
theorem sStep_in {X Y : Nat → Int} {s : Int} {k a b c d : Nat} {q : Int × Int} (h : (sStep X Y s k a b c d).1 = some q) : inP q := by
  match k with
  | 0 => exact inP_some h
  | 1 => exact inP_some h
  | 2 => exact inP_if h
  | 3 => exact inP_if h
  | 4 => exact inP_if h
  | 5 => exact inP_map h
  | 6 => exact inP_map h
  | 7 => exact inP_some h
  | 8 => exact inP_some h
  | 9 => exact inP_some h
  | 10 => exact inP_if h
  | 11 =>
    have h2 : (sCen X Y a c d).bind (fun q => (sFoot X Y q.1 q.2 a b).map (fun w => ((2 * w.1 - X a) % 1000003, (2 * w.2 - Y a) % 1000003))) = some q := h
    cases hq : sCen X Y a c d with
    | none => rw [hq] at h2; cases h2
    | some w =>
      rw [hq] at h2
      exact inP_map h2
  | 12 => exact inP_some h
  | k + 13 => exact inP_if h
theorem sStep_s {X Y : Nat → Int} {s : Int} {k a b c d : Nat} (h0 : 0 ≤ s) (h1 : s < 2147483647) : 0 ≤ (sStep X Y s k a b c d).2 ∧ (sStep X Y s k a b c d).2 < 2147483647 := by
  match k with
  | 0 => exact nx_lt _
  | 1 => exact ⟨h0, h1⟩
  | 2 => exact ⟨h0, h1⟩
  | 3 => exact ⟨h0, h1⟩
  | 4 => exact ⟨h0, h1⟩
  | 5 => exact ⟨h0, h1⟩
  | 6 => exact ⟨h0, h1⟩
  | 7 => exact ⟨h0, h1⟩
  | 8 => exact ⟨h0, h1⟩
  | 9 => exact nx_lt _
  | 10 => exact nx_lt _
  | 11 => exact ⟨h0, h1⟩
  | 12 => exact ⟨h0, h1⟩
  | k + 13 => exact ⟨h0, h1⟩
/-- draw's state, places, the point that fell -/
abbrev FS : Type := Int × (Nat → Int) × (Nat → Int) × Option Nat
def frS (kd sr : Nat → Nat) (p : Nat) (f : FS) : FS := match f.2.2.2 with
  | some _ => f
  | none => match (sStep f.2.1 f.2.2.1 f.1 (kd p) (sr (4 * p)) (sr (4 * p + 1)) (sr (4 * p + 2)) (sr (4 * p + 3))).1 with
    | none => ((sStep f.2.1 f.2.2.1 f.1 (kd p) (sr (4 * p)) (sr (4 * p + 1)) (sr (4 * p + 2)) (sr (4 * p + 3))).2, f.2.1, f.2.2.1, some p)
    | some q => ((sStep f.2.1 f.2.2.1 f.1 (kd p) (sr (4 * p)) (sr (4 * p + 1)) (sr (4 * p + 2)) (sr (4 * p + 3))).2, va_up f.2.1 p q.1, va_up f.2.2.1 p q.2, none)
def frun (kd sr : Nat → Nat) (s0 : Int) : Nat → FS
  | 0 => (s0, fun _ => 0, fun _ => 0, none)
  | p + 1 => frS kd sr p (frun kd sr s0 p)
