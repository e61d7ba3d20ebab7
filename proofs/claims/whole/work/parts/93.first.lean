/-! WORLDS BY LISTS: the newest cell first -/
def wl (hb : fh_H) : List (Nat × va_E) → fh_H
  | [] => hb
  | x :: ws => fh_up (wl hb ws) x.1 x.2
def wG (hb : fh_H) (ws : List (Nat × va_E)) : Prop := (ws.map Prod.fst).Nodup ∧ ∀ q ∈ ws.map Prod.fst, hb q = none
section WL
variable {hb : fh_H} {ws ws2 B : List (Nat × va_E)} {q a o : Nat} {e : va_E}
theorem wl_out (h : q ∉ ws.map Prod.fst) : wl hb ws q = hb q := by
  induction ws with
  | nil => rfl
  | cons x ws ih =>
    rw [List.map_cons, List.mem_cons, not_or] at h
    show fh_up (wl hb ws) x.1 x.2 q = hb q
    rw [fh_up_n h.1]
    exact ih h.2
theorem wl_at (hn : (ws.map Prod.fst).Nodup) (h : (a, e) ∈ ws) : wl hb ws a = some e := by
  induction ws with
  | nil => cases h
  | cons x ws ih =>
    rw [List.map_cons, List.nodup_cons] at hn
    rcases List.mem_cons.mp h with h1 | h1
    · subst h1
      exact fh_up_s
    · show fh_up (wl hb ws) x.1 x.2 a = some e
      rw [fh_up_n (fun z => hn.1 (by rw [← z]; exact List.mem_map_of_mem (f := Prod.fst) h1))]
      exact ih hn.2 h1
theorem wl_no (h : wl hb ws q = none) : q ∉ ws.map Prod.fst := by
  induction ws with
  | nil => exact List.not_mem_nil
  | cons x ws ih =>
    intro hm
    by_cases hx : q = x.1
    · rw [show wl hb (x :: ws) q = some x.2 from by rw [hx]; exact fh_up_s] at h
      cases h
    · rw [show wl hb (x :: ws) q = wl hb ws q from fh_up_n hx] at h
      rcases List.mem_cons.mp (show q ∈ x.1 :: ws.map Prod.fst from hm) with z | z
      · exact hx z
      · exact ih h z
theorem wl_none (h : wl hb ws q = none) : q ∉ ws.map Prod.fst ∧ hb q = none := ⟨wl_no h, (wl_out (wl_no h)).symm.trans h⟩
theorem wl_pm (hp : ws.Perm ws2) (hn : (ws.map Prod.fst).Nodup) : wl hb ws = wl hb ws2 := by
  funext q
  by_cases hq : q ∈ ws.map Prod.fst
  · obtain ⟨x, hx, rfl⟩ := List.mem_map.mp hq
    have h1 : wl hb ws x.1 = some x.2 := wl_at hn (e := x.2) hx
    have h2 : wl hb ws2 x.1 = some x.2 := wl_at ((hp.map Prod.fst).nodup_iff.mp hn) (e := x.2) (hp.mem_iff.mp hx)
    rw [h1, h2]
  · rw [wl_out hq, wl_out (fun z => hq ((hp.map Prod.fst).mem_iff.mpr z))]
theorem wG.pm (h : wG hb ws) (hp : ws.Perm ws2) : wG hb ws2 := ⟨(hp.map Prod.fst).nodup_iff.mp h.1, fun q hq => h.2 q ((hp.map Prod.fst).mem_iff.mpr hq)⟩
theorem wG.new (h : wG hb ws) (hq : wl hb ws q = none) : wG hb ((q, e) :: ws) := ⟨List.nodup_cons.mpr ⟨(wl_none hq).1, h.1⟩, fun a ha => (List.mem_cons.mp (show a ∈ q :: ws.map Prod.fst from ha)).elim (fun z => by rw [z]; exact (wl_none hq).2) (h.2 a)⟩
theorem wl_app : wl (wl hb ws) B = wl hb (B ++ ws) := by
  induction B with
  | nil => rfl
  | cons y B ih =>
    show fh_up (wl (wl hb ws) B) y.1 y.2 = fh_up (wl hb (B ++ ws)) y.1 y.2
    rw [ih]
theorem wG.app (h : wG hb ws) (hB : wG (wl hb ws) B) : wG hb (B ++ ws) := by
  refine ⟨?_, fun q hq => ?_⟩
  · rw [List.map_append, List.nodup_append]
    exact ⟨hB.1, h.1, fun a ha b hb2 hab => (wl_none (hB.2 a ha)).1 (by rw [hab]; exact hb2)⟩
  · rw [List.map_append, List.mem_append] at hq
    rcases hq with z | z
    · exact (wl_none (hB.2 q z)).2
    · exact h.2 q z
theorem wG.blk {x : Nat × va_E} (h : wG hb (x :: ws)) (hB : wG (wl hb (x :: ws)) B) : wG hb (x :: (B ++ ws)) ∧ wl (wl hb (x :: ws)) B = wl hb (x :: (B ++ ws)) := by
  have h1 := h.app hB
  have hp : (B ++ x :: ws).Perm (x :: (B ++ ws)) := List.perm_middle
  exact ⟨h1.pm hp, wl_app.trans (wl_pm hp h1.1)⟩
theorem wG.blk2 {x y : Nat × va_E} (h : wG hb (x :: y :: ws)) (hB : wG (wl hb (x :: y :: ws)) B) : wG hb (x :: y :: (B ++ ws)) ∧ wl (wl hb (x :: y :: ws)) B = wl hb (x :: y :: (B ++ ws)) := by
  have h1 := h.app hB
  have hp : (B ++ x :: y :: ws).Perm (x :: y :: (B ++ ws)) := List.perm_middle.trans (List.Perm.cons x List.perm_middle)
  exact ⟨h1.pm hp, wl_app.trans (wl_pm hp h1.1)⟩
theorem fh_upup {h : fh_H} {e2 : va_E} : fh_up (fh_up h a e) a e2 = fh_up h a e2 := by
  funext q
  by_cases hq : q = a
  · subst hq
    rw [fh_up_s, fh_up_s]
  · rw [fh_up_n hq, fh_up_n hq, fh_up_n hq]
theorem w_lt {j n : Nat} (h : Nat.ble (j + 1) n = true) : j < n := Nat.le_of_ble_eq_true h
theorem w_put {ci j : Nat} {fs : List Value} {x : Value} {P : fh_H → Prop} (h : wG hb ((o, .inr (ci, fs)) :: ws)) (hj : j < fs.length) (k : wG hb ((o, .inr (ci, fs.set j x)) :: ws) → P (wl hb ((o, .inr (ci, fs.set j x)) :: ws))) : wP (wl hb ((o, .inr (ci, fs)) :: ws)) o ci j x P := by
  refine ⟨_, oi_p (fs := fs) fh_up_s hj, ?_⟩
  have e2 : fh_up (wl hb ((o, .inr (ci, fs)) :: ws)) o (.inr (ci, fs.set j x)) = wl hb ((o, .inr (ci, fs.set j x)) :: ws) := fh_upup
  rw [e2]
  exact k ⟨h.1, h.2⟩
theorem w_new {x : Nat × va_E} {P : Nat → fh_H → Prop} (h : wG hb (x :: ws)) (k : ∀ q, wG hb (x :: (q, e) :: ws) → P q (wl hb (x :: (q, e) :: ws))) : wN (wl hb (x :: ws)) e P := by
  intro q hq
  have h1 := h.new (e := e) hq
  have hp : ((q, e) :: x :: ws).Perm (x :: (q, e) :: ws) := List.Perm.swap _ _ _
  have h2 : wl hb ((q, e) :: x :: ws) = wl hb (x :: (q, e) :: ws) := wl_pm hp h1.1
  show P q (wl hb ((q, e) :: x :: ws))
  rw [h2]
  exact k q (h1.pm hp)
theorem w_new2 {x y : Nat × va_E} {P : Nat → fh_H → Prop} (h : wG hb (x :: y :: ws)) (k : ∀ q, wG hb (x :: y :: (q, e) :: ws) → P q (wl hb (x :: y :: (q, e) :: ws))) : wN (wl hb (x :: y :: ws)) e P := by
  intro q hq
  have h1 := h.new (e := e) hq
  have hp : ((q, e) :: x :: y :: ws).Perm (x :: y :: (q, e) :: ws) := (List.Perm.swap _ _ _).trans (List.Perm.cons x (List.Perm.swap _ _ _))
  have h2 : wl hb ((q, e) :: x :: y :: ws) = wl hb (x :: y :: (q, e) :: ws) := wl_pm hp h1.1
  show P q (wl hb ((q, e) :: x :: y :: ws))
  rw [h2]
  exact k q (h1.pm hp)
theorem w_first {P : fh_H → Prop} (hq : hb q = none) (k : wG hb [(q, e)] → P (wl hb [(q, e)])) : P (fh_up hb q e) := k ⟨List.nodup_cons.mpr ⟨List.not_mem_nil, List.nodup_nil⟩, fun a ha => by
  rw [List.mem_singleton.mp (show a ∈ [q] from ha)]
  exact hq⟩
theorem w_ast {x : Nat × va_E} {y ci n g : Nat} {cA : ClassId} {fs : List Value} {f : Nat → Option Nat} {Q : fh_H → Prop} (h : wG hb (x :: (y, .inl (cA, n, .inr (.inr (.inr (.inr f))))) :: ws)) (hq : (q, .inr (ci, fs)) ∈ ws) (hg : g < n) (hg2 : g < 100) (k : wG hb (x :: (y, .inl (cA, n, .inr (.inr (.inr (.inr (va_up f g (some q))))))) :: ws) → Q (wl hb (x :: (y, .inl (cA, n, .inr (.inr (.inr (.inr (va_up f g (some q))))))) :: ws))) :
    ∃ h2, fs_a cA ci (wl hb (x :: (y, .inl (cA, n, .inr (.inr (.inr (.inr f))))) :: ws)) (some y) (nI g) (some q) = some h2 ∧ Q h2 := by
  have hy : wl hb (x :: (y, .inl (cA, n, .inr (.inr (.inr (.inr f))))) :: ws) y = some (.inl (cA, n, .inr (.inr (.inr (.inr f))))) := wl_at h.1 (List.mem_cons_of_mem _ List.mem_cons_self)
  have hq2 : wl hb (x :: (y, .inl (cA, n, .inr (.inr (.inr (.inr f))))) :: ws) q = some (.inr (ci, fs)) := wl_at h.1 (List.mem_cons_of_mem _ (List.mem_cons_of_mem _ hq))
  have hc : (nI g).toNatClampNeg = g := nI_clamp (by omega)
  have h0 : ¬ (nI g < 0 ∨ n ≤ g) := fun z => z.elim (nI_pos (by omega)) (by omega)
  have hne : y ≠ x.1 := by
    have h1 := h.1
    rw [List.map_cons, List.nodup_cons] at h1
    exact fun z => h1.1 (by rw [← z]; exact List.mem_cons_self)
  refine ⟨fh_up (wl hb (x :: (y, .inl (cA, n, .inr (.inr (.inr (.inr f))))) :: ws)) y (.inl (cA, n, .inr (.inr (.inr (.inr (va_up f g (some q))))))), ?_, ?_⟩
  · simp only [fs_a, hy, hq2, hc]
    rw [if_pos ⟨⟨trivial, trivial⟩, h0⟩]
  · have e2 : fh_up (wl hb (x :: (y, .inl (cA, n, .inr (.inr (.inr (.inr f))))) :: ws)) y (.inl (cA, n, .inr (.inr (.inr (.inr (va_up f g (some q))))))) = wl hb (x :: (y, .inl (cA, n, .inr (.inr (.inr (.inr (va_up f g (some q))))))) :: ws) := by
      funext p
      show fh_up (fh_up (fh_up (wl hb ws) y _) x.1 x.2) y _ p = fh_up (fh_up (wl hb ws) y _) x.1 x.2 p
      by_cases h1 : p = y
      · subst h1
        rw [fh_up_s, fh_up_n hne, fh_up_s]
      · rw [fh_up_n h1]
        by_cases h2 : p = x.1
        · subst h2
          rw [fh_up_s, fh_up_s]
        · rw [fh_up_n h2, fh_up_n h2, fh_up_n h1, fh_up_n h1]
    rw [e2]
    exact k ⟨h.1, h.2⟩
def wr : List (Nat × va_E) → List (Nat × va_E) → Prop
  | [], [] => True
  | x :: xs, y :: ys => (y.1 = x.1 ∧ er x.2 y.2) ∧ wr xs ys
  | _, _ => False
theorem wr_weq : ∀ {xs ys : List (Nat × va_E)}, wr xs ys → weq (wl hb xs) (wl hb ys) := by
  intro xs
  induction xs with
  | nil =>
    intro ys h
    cases ys with
    | nil => exact fun a => Or.inl rfl
    | cons y ys => exact h.elim
  | cons x xs ih =>
    intro ys h
    cases ys with
    | nil => exact h.elim
    | cons y ys =>
      obtain ⟨⟨h1, h2⟩, h3⟩ := h
      intro a
      show fh_up (wl hb ys) y.1 y.2 a = fh_up (wl hb xs) x.1 x.2 a ∨ ∃ e e2, fh_up (wl hb xs) x.1 x.2 a = some e ∧ fh_up (wl hb ys) y.1 y.2 a = some e2 ∧ er e e2
      rw [h1]
      by_cases hx : a = x.1
      · rw [hx, fh_up_s, fh_up_s]
        exact Or.inr ⟨_, _, rfl, rfl, h2⟩
      · rw [fh_up_n hx, fh_up_n hx]
        exact ih h3 a
end WL
def b_Pl (K : Nat → ClassId) (a : Nat → Nat) : List (Nat × va_E) := [(a 0, .inr (1, [.ref (a 2), .ref (a 1), .int 0])), (a 1, .inl (K 0, zI 40)), (a 2, .inl (K 0, zI 10))]
def b_Fi (K : Nat → ClassId) (a : Nat → Nat) : List (Nat × va_E) := [(a 0, .inr (4, [.ref (a 2), .ref (a 1), .int 0, .int (-1), .long 0, .int 0, .int 0])), (a 1, .inl (K 0, zI 16)), (a 2, .inl (K 0, zI 16))]
def b_Dr (K : Nat → ClassId) (a : Nat → Nat) : List (Nat × va_E) := [(a 0, .inr (3, [.ref (a 1), .int 0, .int 0, .long 1, .long 1])), (a 1, .inl (K 3, 5, .inr (.inr (.inr (.inr (va_up (va_up (va_up (va_up (va_up (fun _ => none) 0 (some (a 14))) 1 (some (a 11))) 2 (some (a 8))) 3 (some (a 5))) 4 (some (a 2)))))))), (a 2, .inr (4, [.ref (a 4), .ref (a 3), .int 0, .int (-1), .long 0, .int 0, .int 0])), (a 3, .inl (K 0, zI 16)), (a 4, .inl (K 0, zI 16)), (a 5, .inr (4, [.ref (a 7), .ref (a 6), .int 0, .int (-1), .long 0, .int 0, .int 0])), (a 6, .inl (K 0, zI 16)), (a 7, .inl (K 0, zI 16)), (a 8, .inr (4, [.ref (a 10), .ref (a 9), .int 0, .int (-1), .long 0, .int 0, .int 0])), (a 9, .inl (K 0, zI 16)), (a 10, .inl (K 0, zI 16)), (a 11, .inr (4, [.ref (a 13), .ref (a 12), .int 0, .int (-1), .long 0, .int 0, .int 0])), (a 12, .inl (K 0, zI 16)), (a 13, .inl (K 0, zI 16)), (a 14, .inr (4, [.ref (a 16), .ref (a 15), .int 0, .int (-1), .long 0, .int 0, .int 0])), (a 15, .inl (K 0, zI 16)), (a 16, .inl (K 0, zI 16))]
def b_Fs (K : Nat → ClassId) (a : Nat → Nat) : List (Nat × va_E) := [(a 0, .inr (2, [.ref (a 28), .ref (a 1), .ref (a 26), .ref (a 24), .ref (a 23), .ref (a 21), .ref (a 20), .int 0, .int 0])), (a 1, .inl (K 4, 9, .inr (.inr (.inr (.inr (va_up (va_up (va_up (va_up (va_up (va_up (va_up (va_up (va_up (fun _ => none) 0 (some (a 18))) 1 (some (a 16))) 2 (some (a 14))) 3 (some (a 12))) 4 (some (a 10))) 5 (some (a 8))) 6 (some (a 6))) 7 (some (a 4))) 8 (some (a 2)))))))), (a 2, .inr (5, [.ref (a 3), .int 0])), (a 3, .inl (K 0, zI (il_len 8))), (a 4, .inr (5, [.ref (a 5), .int 0])), (a 5, .inl (K 0, zI (il_len 7))), (a 6, .inr (5, [.ref (a 7), .int 0])), (a 7, .inl (K 0, zI (il_len 6))), (a 8, .inr (5, [.ref (a 9), .int 0])), (a 9, .inl (K 0, zI (il_len 5))), (a 10, .inr (5, [.ref (a 11), .int 0])), (a 11, .inl (K 0, zI (il_len 4))), (a 12, .inr (5, [.ref (a 13), .int 0])), (a 13, .inl (K 0, zI (il_len 3))), (a 14, .inr (5, [.ref (a 15), .int 0])), (a 15, .inl (K 0, zI (il_len 2))), (a 16, .inr (5, [.ref (a 17), .int 0])), (a 17, .inl (K 0, zI (il_len 1))), (a 18, .inr (5, [.ref (a 19), .int 0])), (a 19, .inl (K 0, zI (il_len 0))), (a 20, .inl (K 1, zL 120)), (a 21, .inr (5, [.ref (a 22), .int 0])), (a 22, .inl (K 0, zI 120)), (a 23, .inl (K 0, zI 16)), (a 24, .inr (5, [.ref (a 25), .int 0])), (a 25, .inl (K 0, zI 120)), (a 26, .inr (5, [.ref (a 27), .int 0])), (a 27, .inl (K 0, zI 45)), (a 28, .inr (3, [.ref (a 29), .int 0, .int 0, .long 1, .long 1])), (a 29, .inl (K 3, 5, .inr (.inr (.inr (.inr (va_up (va_up (va_up (va_up (va_up (fun _ => none) 0 (some (a 42))) 1 (some (a 39))) 2 (some (a 36))) 3 (some (a 33))) 4 (some (a 30)))))))), (a 30, .inr (4, [.ref (a 32), .ref (a 31), .int 0, .int (-1), .long 0, .int 0, .int 0])), (a 31, .inl (K 0, zI 16)), (a 32, .inl (K 0, zI 16)), (a 33, .inr (4, [.ref (a 35), .ref (a 34), .int 0, .int (-1), .long 0, .int 0, .int 0])), (a 34, .inl (K 0, zI 16)), (a 35, .inl (K 0, zI 16)), (a 36, .inr (4, [.ref (a 38), .ref (a 37), .int 0, .int (-1), .long 0, .int 0, .int 0])), (a 37, .inl (K 0, zI 16)), (a 38, .inl (K 0, zI 16)), (a 39, .inr (4, [.ref (a 41), .ref (a 40), .int 0, .int (-1), .long 0, .int 0, .int 0])), (a 40, .inl (K 0, zI 16)), (a 41, .inl (K 0, zI 16)), (a 42, .inr (4, [.ref (a 44), .ref (a 43), .int 0, .int (-1), .long 0, .int 0, .int 0])), (a 43, .inl (K 0, zI 16)), (a 44, .inl (K 0, zI 16))]
def b_FF (K : Nat → ClassId) (a : Nat → Nat) : List (Nat × va_E) := [(a 0, .inr (0, [.ref (a 63), .ref (a 18), .ref (a 1), .int 1, .int 1])), (a 1, .inr (3, [.ref (a 2), .int 0, .int 0, .long 1, .long 1])), (a 2, .inl (K 3, 5, .inr (.inr (.inr (.inr (va_up (va_up (va_up (va_up (va_up (fun _ => none) 0 (some (a 15))) 1 (some (a 12))) 2 (some (a 9))) 3 (some (a 6))) 4 (some (a 3)))))))), (a 3, .inr (4, [.ref (a 5), .ref (a 4), .int 0, .int (-1), .long 0, .int 0, .int 0])), (a 4, .inl (K 0, zI 16)), (a 5, .inl (K 0, zI 16)), (a 6, .inr (4, [.ref (a 8), .ref (a 7), .int 0, .int (-1), .long 0, .int 0, .int 0])), (a 7, .inl (K 0, zI 16)), (a 8, .inl (K 0, zI 16)), (a 9, .inr (4, [.ref (a 11), .ref (a 10), .int 0, .int (-1), .long 0, .int 0, .int 0])), (a 10, .inl (K 0, zI 16)), (a 11, .inl (K 0, zI 16)), (a 12, .inr (4, [.ref (a 14), .ref (a 13), .int 0, .int (-1), .long 0, .int 0, .int 0])), (a 13, .inl (K 0, zI 16)), (a 14, .inl (K 0, zI 16)), (a 15, .inr (4, [.ref (a 17), .ref (a 16), .int 0, .int (-1), .long 0, .int 0, .int 0])), (a 16, .inl (K 0, zI 16)), (a 17, .inl (K 0, zI 16)), (a 18, .inr (2, [.ref (a 46), .ref (a 19), .ref (a 44), .ref (a 42), .ref (a 41), .ref (a 39), .ref (a 38), .int 0, .int 0])), (a 19, .inl (K 4, 9, .inr (.inr (.inr (.inr (va_up (va_up (va_up (va_up (va_up (va_up (va_up (va_up (va_up (fun _ => none) 0 (some (a 36))) 1 (some (a 34))) 2 (some (a 32))) 3 (some (a 30))) 4 (some (a 28))) 5 (some (a 26))) 6 (some (a 24))) 7 (some (a 22))) 8 (some (a 20)))))))), (a 20, .inr (5, [.ref (a 21), .int 0])), (a 21, .inl (K 0, zI (il_len 8))), (a 22, .inr (5, [.ref (a 23), .int 0])), (a 23, .inl (K 0, zI (il_len 7))), (a 24, .inr (5, [.ref (a 25), .int 0])), (a 25, .inl (K 0, zI (il_len 6))), (a 26, .inr (5, [.ref (a 27), .int 0])), (a 27, .inl (K 0, zI (il_len 5))), (a 28, .inr (5, [.ref (a 29), .int 0])), (a 29, .inl (K 0, zI (il_len 4))), (a 30, .inr (5, [.ref (a 31), .int 0])), (a 31, .inl (K 0, zI (il_len 3))), (a 32, .inr (5, [.ref (a 33), .int 0])), (a 33, .inl (K 0, zI (il_len 2))), (a 34, .inr (5, [.ref (a 35), .int 0])), (a 35, .inl (K 0, zI (il_len 1))), (a 36, .inr (5, [.ref (a 37), .int 0])), (a 37, .inl (K 0, zI (il_len 0))), (a 38, .inl (K 1, zL 120)), (a 39, .inr (5, [.ref (a 40), .int 0])), (a 40, .inl (K 0, zI 120)), (a 41, .inl (K 0, zI 16)), (a 42, .inr (5, [.ref (a 43), .int 0])), (a 43, .inl (K 0, zI 120)), (a 44, .inr (5, [.ref (a 45), .int 0])), (a 45, .inl (K 0, zI 45)), (a 46, .inr (3, [.ref (a 47), .int 0, .int 0, .long 1, .long 1])), (a 47, .inl (K 3, 5, .inr (.inr (.inr (.inr (va_up (va_up (va_up (va_up (va_up (fun _ => none) 0 (some (a 60))) 1 (some (a 57))) 2 (some (a 54))) 3 (some (a 51))) 4 (some (a 48)))))))), (a 48, .inr (4, [.ref (a 50), .ref (a 49), .int 0, .int (-1), .long 0, .int 0, .int 0])), (a 49, .inl (K 0, zI 16)), (a 50, .inl (K 0, zI 16)), (a 51, .inr (4, [.ref (a 53), .ref (a 52), .int 0, .int (-1), .long 0, .int 0, .int 0])), (a 52, .inl (K 0, zI 16)), (a 53, .inl (K 0, zI 16)), (a 54, .inr (4, [.ref (a 56), .ref (a 55), .int 0, .int (-1), .long 0, .int 0, .int 0])), (a 55, .inl (K 0, zI 16)), (a 56, .inl (K 0, zI 16)), (a 57, .inr (4, [.ref (a 59), .ref (a 58), .int 0, .int (-1), .long 0, .int 0, .int 0])), (a 58, .inl (K 0, zI 16)), (a 59, .inl (K 0, zI 16)), (a 60, .inr (4, [.ref (a 62), .ref (a 61), .int 0, .int (-1), .long 0, .int 0, .int 0])), (a 61, .inl (K 0, zI 16)), (a 62, .inl (K 0, zI 16)), (a 63, .inr (1, [.ref (a 65), .ref (a 64), .int 0])), (a 64, .inl (K 0, zI 40)), (a 65, .inl (K 0, zI 10))]
def b_Mo (K : Nat → ClassId) (a : Nat → Nat) : List (Nat × va_E) := [(a 0, .inr (6, [.int 0, .ref (a 9), .ref (a 8), .int 1, .int 1, .ref (a 7), .ref (a 6), .ref (a 5), .int 0, .long 0, .long 0, .long 0, .int 0, .ref (a 4), .int 0, .int 0, .ref (a 3), .int 0, .int 0, .ref (a 2), .int 0, .ref (a 1)])), (a 1, .inl (K 2, zI 1024)), (a 2, .inl (K 0, zI 6)), (a 3, .inl (K 2, zI 100)), (a 4, .inl (K 0, zI 6)), (a 5, .inl (K 0, zI 5)), (a 6, .inl (K 1, zL 50)), (a 7, .inl (K 1, zL 50)), (a 8, .inl (K 0, zI 40)), (a 9, .inl (K 0, zI 10))]
def b_IL (K : Nat → ClassId) (n : Nat) (a : Nat → Nat) : List (Nat × va_E) := [(a 0, .inr (5, [.ref (a 1), .int 0])), (a 1, .inl (K 0, zI n))]
section NEWS
variable {K : Nat → ClassId} {h hb : fh_H} {P : Nat → fh_H → Prop} {ws : List (Nat × va_E)}
theorem n_Pl (k : ∀ a, wG h (b_Pl K a) → P (a 0) (wl h (b_Pl K a))) : wN h z_Pl (fun q h => wf_Pl K q h (P q)) := by
  intro q hq
  refine w_first (P := fun h => wf_Pl K q h (P q)) hq (fun hG => ?_)
  unfold wf_Pl
  unfold z_Pl at hG ⊢
  refine w_new hG (fun q1 hG => w_put hG (w_lt rfl) (fun hG => w_new hG (fun q2 hG => w_put hG (w_lt rfl) (fun hG => ?_))))
  exact k (fun i => [q, q2, q1].getD i 0) hG
theorem n_Fi (k : ∀ a, wG h (b_Fi K a) → P (a 0) (wl h (b_Fi K a))) : wN h z_Fi (fun q h => wf_Fi K q h (P q)) := by
  intro q hq
  refine w_first (P := fun h => wf_Fi K q h (P q)) hq (fun hG => ?_)
  unfold wf_Fi
  unfold z_Fi at hG ⊢
  refine w_new hG (fun q1 hG => w_put hG (w_lt rfl) (fun hG => w_new hG (fun q2 hG => w_put hG (w_lt rfl) (fun hG => w_put hG (w_lt rfl) (fun hG => ?_)))))
  exact k (fun i => [q, q2, q1].getD i 0) hG
theorem n_IL {n : Nat} (k : ∀ a, wG h (b_IL K n a) → P (a 0) (wl h (b_IL K n a))) : wN h z_IL (fun q h => wf_IL K q n h (P q)) := by
  intro q hq
  refine w_first (P := fun h => wf_IL K q n h (P q)) hq (fun hG => ?_)
  unfold wf_IL
  unfold z_IL at hG ⊢
  refine w_new hG (fun q1 hG => w_put hG (w_lt rfl) (fun hG => ?_))
  exact k (fun i => [q, q1].getD i 0) hG
theorem n_stepDr {o q1 m g : Nat} {fs : List Value} {f : Nat → Option Nat} {P : fh_H → Prop} (hg : g < 5) (hG : wG hb ((o, .inr (3, .ref q1 :: fs)) :: (q1, .inl (K 3, 5, .inr (.inr (.inr (.inr f))))) :: ws)) (k : ∀ a, wG hb ((o, .inr (3, .ref q1 :: fs)) :: (q1, .inl (K 3, 5, .inr (.inr (.inr (.inr (va_up f g (some (a 0)))))))) :: (b_Fi K a ++ ws)) → wl_Dr K o m (g + 1) (wl hb ((o, .inr (3, .ref q1 :: fs)) :: (q1, .inl (K 3, 5, .inr (.inr (.inr (.inr (va_up f g (some (a 0)))))))) :: (b_Fi K a ++ ws))) P) :
    wl_Dr K o (m + 1) g (wl hb ((o, .inr (3, .ref q1 :: fs)) :: (q1, .inl (K 3, 5, .inr (.inr (.inr (.inr f))))) :: ws)) P := by
  refine ⟨some q1, oi_a (fs := .ref q1 :: fs) fh_up_s rfl, ?_⟩
  refine n_Fi (P := fun q h => ∃ h2, fs_a (K 3) 4 h (some q1) (nI g) (some q) = some h2 ∧ wl_Dr K o m (g + 1) h2 P) (fun a hB => ?_)
  obtain ⟨hG2, e2⟩ := hG.blk2 hB
  rw [e2]
  exact w_ast hG2 (List.mem_append_left _ List.mem_cons_self) hg (by omega) (k a)
theorem n_Dr (k : ∀ a, wG h (b_Dr K a) → P (a 0) (wl h (b_Dr K a))) : wN h z_Dr (fun q h => wf_Dr K q h (P q)) := by
  intro q hq
  refine w_first (P := fun h => wf_Dr K q h (P q)) hq (fun hG => ?_)
  unfold wf_Dr
  unfold z_Dr at hG ⊢
  refine w_new hG (fun q1 hG => w_put hG (w_lt rfl) (fun hG => w_put hG (w_lt rfl) (fun hG => w_put hG (w_lt rfl) (fun hG => ?_))))
  refine n_stepDr (by decide) hG (fun a0 hG => n_stepDr (by decide) hG (fun a1 hG => n_stepDr (by decide) hG (fun a2 hG => n_stepDr (by decide) hG (fun a3 hG => n_stepDr (by decide) hG (fun a4 hG => ?_)))))
  exact k (fun i => [q, q1, a4 0, a4 1, a4 2, a3 0, a3 1, a3 2, a2 0, a2 1, a2 2, a1 0, a1 1, a1 2, a0 0, a0 1, a0 2].getD i 0) hG
theorem n_stepFs {o q0 q1 m g : Nat} {fs : List Value} {f : Nat → Option Nat} {P : fh_H → Prop} (hg : g < 9) (hG : wG hb ((o, .inr (2, .ref q0 :: .ref q1 :: fs)) :: (q1, .inl (K 4, 9, .inr (.inr (.inr (.inr f))))) :: ws)) (k : ∀ a, wG hb ((o, .inr (2, .ref q0 :: .ref q1 :: fs)) :: (q1, .inl (K 4, 9, .inr (.inr (.inr (.inr (va_up f g (some (a 0)))))))) :: (b_IL K (il_len g) a ++ ws)) → wl_Fs K o m (g + 1) (wl hb ((o, .inr (2, .ref q0 :: .ref q1 :: fs)) :: (q1, .inl (K 4, 9, .inr (.inr (.inr (.inr (va_up f g (some (a 0)))))))) :: (b_IL K (il_len g) a ++ ws))) P) :
    wl_Fs K o (m + 1) g (wl hb ((o, .inr (2, .ref q0 :: .ref q1 :: fs)) :: (q1, .inl (K 4, 9, .inr (.inr (.inr (.inr f))))) :: ws)) P := by
  refine ⟨some q1, oi_a (fs := .ref q0 :: .ref q1 :: fs) fh_up_s rfl, ?_⟩
  refine n_IL (P := fun q h => ∃ h2, fs_a (K 4) 5 h (some q1) (nI g) (some q) = some h2 ∧ wl_Fs K o m (g + 1) h2 P) (fun a hB => ?_)
  obtain ⟨hG2, e2⟩ := hG.blk2 hB
  rw [e2]
  exact w_ast hG2 (List.mem_append_left _ List.mem_cons_self) hg (by omega) (k a)
theorem n_Fs (k : ∀ a, wG h (b_Fs K a) → P (a 0) (wl h (b_Fs K a))) : wN h z_Fs (fun q h => wf_Fs K q h (P q)) := by
  intro q hq
  refine w_first (P := fun h => wf_Fs K q h (P q)) hq (fun hG => ?_)
  unfold wf_Fs
  unfold z_Fs at hG ⊢
  refine n_Dr (fun d hB => ?_)
  obtain ⟨hG, e2⟩ := hG.blk hB
  rw [e2]
  refine w_put hG (w_lt rfl) (fun hG => w_new hG (fun q1 hG => w_put hG (w_lt rfl) (fun hG => ?_)))
  refine n_IL (fun r9 hB => ?_)
  obtain ⟨hG, e2⟩ := hG.blk2 hB
  rw [e2]
  refine w_put hG (w_lt rfl) (fun hG => ?_)
  refine n_IL (fun r10 hB => ?_)
  obtain ⟨hG, e2⟩ := hG.blk2 hB
  rw [e2]
  refine w_put hG (w_lt rfl) (fun hG => w_new2 hG (fun q4 hG => w_put hG (w_lt rfl) (fun hG => ?_)))
  refine n_IL (fun r11 hB => ?_)
  obtain ⟨hG, e2⟩ := hG.blk2 hB
  rw [e2]
  refine w_put hG (w_lt rfl) (fun hG => w_new2 hG (fun q6 hG => w_put hG (w_lt rfl) (fun hG => ?_)))
  refine n_stepFs (by decide) hG (fun l0 hG => n_stepFs (by decide) hG (fun l1 hG => n_stepFs (by decide) hG (fun l2 hG => n_stepFs (by decide) hG (fun l3 hG => n_stepFs (by decide) hG (fun l4 hG => n_stepFs (by decide) hG (fun l5 hG => n_stepFs (by decide) hG (fun l6 hG => n_stepFs (by decide) hG (fun l7 hG => n_stepFs (by decide) hG (fun l8 hG => ?_)))))))))
  exact k (fun i => [q, q1, l8 0, l8 1, l7 0, l7 1, l6 0, l6 1, l5 0, l5 1, l4 0, l4 1, l3 0, l3 1, l2 0, l2 1, l1 0, l1 1, l0 0, l0 1, q6, r11 0, r11 1, q4, r10 0, r10 1, r9 0, r9 1, d 0, d 1, d 2, d 3, d 4, d 5, d 6, d 7, d 8, d 9, d 10, d 11, d 12, d 13, d 14, d 15, d 16].getD i 0) hG
end NEWS
def offs : Nat → Nat := fun t => ([0, 1, 2, 3, 4, 5, 7, 9, 19, 29, 39, 51, 63, 64, 65] : List Nat).getD t 0
def pos (t i : Nat) : Nat := ([0, 63, 65, 64, 18, 46, 1, 47, 2, 60, 57, 54, 51, 48, 15, 12, 9, 6, 3, 62, 59, 56, 53, 50, 17, 14, 11, 8, 5, 61, 58, 55, 52, 49, 16, 13, 10, 7, 4, 36, 34, 32, 30, 28, 26, 24, 22, 20, 44, 42, 39, 37, 35, 33, 31, 29, 27, 25, 23, 21, 45, 43, 40, 19, 41, 38] : List Nat).getD (offs t + i) 0
def tt : Nat → Nat := fun k => ([0, 5, 6, 7, 9, 8, 7, 9, 8, 7, 9, 8, 7, 9, 8, 7, 9, 8, 4, 12, 10, 11, 10, 11, 10, 11, 10, 11, 10, 11, 10, 11, 10, 11, 10, 11, 10, 11, 14, 10, 11, 13, 10, 11, 10, 11, 5, 6, 7, 9, 8, 7, 9, 8, 7, 9, 8, 7, 9, 8, 7, 9, 8, 1, 3, 2] : List Nat).getD k 0
def ii : Nat → Nat := fun k => ([0, 1, 1, 9, 9, 9, 8, 8, 8, 7, 7, 7, 6, 6, 6, 5, 5, 5, 0, 0, 8, 8, 7, 7, 6, 6, 5, 5, 4, 4, 3, 3, 2, 2, 1, 1, 0, 0, 0, 11, 11, 0, 10, 10, 9, 9, 0, 0, 4, 4, 4, 3, 3, 3, 2, 2, 2, 1, 1, 1, 0, 0, 0, 0, 0, 0] : List Nat).getD k 0
theorem pos_1 : ∀ t, t < 15 → ∀ i, i < cs_bd t → pos t i < 66 ∧ tt (pos t i) = t ∧ ii (pos t i) = i := by decide +kernel
theorem pos_2 : ∀ k, k < 66 → pos (tt k) (ii k) = k ∧ ii k < cs_bd (tt k) := by decide +kernel
theorem bd_lt {t i : Nat} (h : i < cs_bd t) : t < 15 := by
  rcases Nat.lt_or_ge t 15 with q | q
  · exact q
  · obtain ⟨u, rfl⟩ : ∃ u, t = u + 15 := ⟨t - 15, by omega⟩
    exact absurd (show i < 0 from h) (by omega)
def S_0 : CS := (1, 1, 0, fun _ => 0, fun _ => 0, 0, 0, fun _ => 0, fun _ => 0, fun _ => 0, fun _ => 0, fun _ => 1, fun _ => 1, fun _ _ => 0, fun _ _ => 0, fun _ => 0, fun _ => -1, fun _ => 0, fun _ => 0, fun _ => 0, fun _ _ => 0, fun _ => 0)
def M_0 : MS := (0, fun _ => 0, fun _ => 0, 1, 1, fun _ => 0, fun _ => 0, fun _ => 0, 0, 0, 0, 0, 0, fun _ => 0, 0, 0, fun _ => 0, 0, 0, fun _ => 0, 0, fun _ => 0)
def LL (a : Nat → Nat) : Nat → Nat → Nat := fun t i => a (pos t i)
def F2 (K : Nat → ClassId) (a : Nat → Nat) : List (Nat × va_E) := (List.range 66).map (fun k => (a k, cs_Cell K (LL a) S_0 (tt k) (ii k)))
section FIRST
variable {K : Nat → ClassId} {a : Nat → Nat} {hb : fh_H}
theorem F2_fst : (F2 K a).map Prod.fst = (List.range 66).map a := by
  unfold F2
  rw [List.map_map]
  rfl
theorem F2_mem {k : Nat} (hk : k < 66) : (a k, cs_Cell K (LL a) S_0 (tt k) (ii k)) ∈ F2 K a := List.mem_map.mpr ⟨k, List.mem_range.mpr hk, rfl⟩
theorem F2_inj (hn : ((F2 K a).map Prod.fst).Nodup) {i j : Nat} (hi : i < 66) (hj : j < 66) (h : a i = a j) : i = j := by
  rw [F2_fst] at hn
  refine (List.getElem?_inj (l := (List.range 66).map a) (i := i) (j := j) (by rw [List.length_map, List.length_range]; exact hi) hn).mp ?_
  rw [List.getElem?_map, List.getElem?_map, List.getElem?_range hi, List.getElem?_range hj]
  exact congrArg some h
theorem F2_I (hn : ((F2 K a).map Prod.fst).Nodup) : cs_I (LL a) := by
  intro t i t2 i2 h1 h2 he
  obtain ⟨p1, p2, p3⟩ := pos_1 t (bd_lt h1) i h1
  obtain ⟨q1, q2, q3⟩ := pos_1 t2 (bd_lt h2) i2 h2
  have := F2_inj hn p1 q1 he
  exact ⟨p2.symm.trans ((congrArg tt this).trans q2), p3.symm.trans ((congrArg ii this).trans q3)⟩
theorem F2_W (hn : ((F2 K a).map Prod.fst).Nodup) : cs_W K (LL a) hb (wl hb (F2 K a)) S_0 := by
  refine ⟨fun t i h1 => ?_, fun q hq => wl_out (fun hm => ?_)⟩
  · obtain ⟨p1, p2, p3⟩ := pos_1 t (bd_lt h1) i h1
    have h2 := wl_at (hb := hb) hn (F2_mem (K := K) (a := a) p1)
    rw [p2, p3] at h2
    exact h2
  · rw [F2_fst] at hm
    obtain ⟨k, hk, rfl⟩ := List.mem_map.mp hm
    obtain ⟨p1, p2⟩ := pos_2 k (List.mem_range.mp hk)
    exact hq (tt k) (ii k) p2 (by unfold LL; rw [p1])
theorem er_5 {q0 q1 q2 q3 q4 : Nat} {f : Nat → Nat} (h : f 0 = q0 ∧ f 1 = q1 ∧ f 2 = q2 ∧ f 3 = q3 ∧ f 4 = q4) : ∀ j, j < 5 → some (f j) = va_up (va_up (va_up (va_up (va_up (fun _ => none) 0 (some q0)) 1 (some q1)) 2 (some q2)) 3 (some q3)) 4 (some q4) j := by
  obtain ⟨rfl, rfl, rfl, rfl, rfl⟩ := h
  intro j hj
  match j, hj with
  | 0, _ => rfl
  | 1, _ => rfl
  | 2, _ => rfl
  | 3, _ => rfl
  | 4, _ => rfl
  | j + 5, hj => omega
theorem er_9 {q0 q1 q2 q3 q4 q5 q6 q7 q8 : Nat} {f : Nat → Nat} (h : f 0 = q0 ∧ f 1 = q1 ∧ f 2 = q2 ∧ f 3 = q3 ∧ f 4 = q4 ∧ f 5 = q5 ∧ f 6 = q6 ∧ f 7 = q7 ∧ f 8 = q8) : ∀ j, j < 9 → some (f j) = va_up (va_up (va_up (va_up (va_up (va_up (va_up (va_up (va_up (fun _ => none) 0 (some q0)) 1 (some q1)) 2 (some q2)) 3 (some q3)) 4 (some q4)) 5 (some q5)) 6 (some q6)) 7 (some q7)) 8 (some q8) j := by
  obtain ⟨rfl, rfl, rfl, rfl, rfl, rfl, rfl, rfl, rfl⟩ := h
  intro j hj
  match j, hj with
  | 0, _ => rfl
  | 1, _ => rfl
  | 2, _ => rfl
  | 3, _ => rfl
  | 4, _ => rfl
  | 5, _ => rfl
  | 6, _ => rfl
  | 7, _ => rfl
  | 8, _ => rfl
  | j + 9, hj => omega
set_option maxHeartbeats 4000000 in
set_option maxRecDepth 100000 in
theorem F2_wr : wr (b_FF K a) (F2 K a) := ⟨⟨rfl, Or.inl rfl⟩, ⟨⟨rfl, Or.inl rfl⟩, ⟨⟨rfl, Or.inr ⟨_, _, _, _, rfl, rfl, er_5 (f := fun g => LL a 7 (5 * 1 + g)) ⟨rfl, rfl, rfl, rfl, rfl⟩⟩⟩, ⟨⟨rfl, Or.inl rfl⟩, ⟨⟨rfl, Or.inl rfl⟩, ⟨⟨rfl, Or.inl rfl⟩, ⟨⟨rfl, Or.inl rfl⟩, ⟨⟨rfl, Or.inl rfl⟩, ⟨⟨rfl, Or.inl rfl⟩, ⟨⟨rfl, Or.inl rfl⟩, ⟨⟨rfl, Or.inl rfl⟩, ⟨⟨rfl, Or.inl rfl⟩, ⟨⟨rfl, Or.inl rfl⟩, ⟨⟨rfl, Or.inl rfl⟩, ⟨⟨rfl, Or.inl rfl⟩, ⟨⟨rfl, Or.inl rfl⟩, ⟨⟨rfl, Or.inl rfl⟩, ⟨⟨rfl, Or.inl rfl⟩, ⟨⟨rfl, Or.inl rfl⟩, ⟨⟨rfl, Or.inr ⟨_, _, _, _, rfl, rfl, er_9 (f := fun g => LL a 10 g) ⟨rfl, rfl, rfl, rfl, rfl, rfl, rfl, rfl, rfl⟩⟩⟩, ⟨⟨rfl, Or.inl rfl⟩, ⟨⟨rfl, Or.inl rfl⟩, ⟨⟨rfl, Or.inl rfl⟩, ⟨⟨rfl, Or.inl rfl⟩, ⟨⟨rfl, Or.inl rfl⟩, ⟨⟨rfl, Or.inl rfl⟩, ⟨⟨rfl, Or.inl rfl⟩, ⟨⟨rfl, Or.inl rfl⟩, ⟨⟨rfl, Or.inl rfl⟩, ⟨⟨rfl, Or.inl rfl⟩, ⟨⟨rfl, Or.inl rfl⟩, ⟨⟨rfl, Or.inl rfl⟩, ⟨⟨rfl, Or.inl rfl⟩, ⟨⟨rfl, Or.inl rfl⟩, ⟨⟨rfl, Or.inl rfl⟩, ⟨⟨rfl, Or.inl rfl⟩, ⟨⟨rfl, Or.inl rfl⟩, ⟨⟨rfl, Or.inl rfl⟩, ⟨⟨rfl, Or.inl rfl⟩, ⟨⟨rfl, Or.inl rfl⟩, ⟨⟨rfl, Or.inl rfl⟩, ⟨⟨rfl, Or.inl rfl⟩, ⟨⟨rfl, Or.inl rfl⟩, ⟨⟨rfl, Or.inl rfl⟩, ⟨⟨rfl, Or.inl rfl⟩, ⟨⟨rfl, Or.inl rfl⟩, ⟨⟨rfl, Or.inl rfl⟩, ⟨⟨rfl, Or.inr ⟨_, _, _, _, rfl, rfl, er_5 (f := fun g => LL a 7 (5 * 0 + g)) ⟨rfl, rfl, rfl, rfl, rfl⟩⟩⟩, ⟨⟨rfl, Or.inl rfl⟩, ⟨⟨rfl, Or.inl rfl⟩, ⟨⟨rfl, Or.inl rfl⟩, ⟨⟨rfl, Or.inl rfl⟩, ⟨⟨rfl, Or.inl rfl⟩, ⟨⟨rfl, Or.inl rfl⟩, ⟨⟨rfl, Or.inl rfl⟩, ⟨⟨rfl, Or.inl rfl⟩, ⟨⟨rfl, Or.inl rfl⟩, ⟨⟨rfl, Or.inl rfl⟩, ⟨⟨rfl, Or.inl rfl⟩, ⟨⟨rfl, Or.inl rfl⟩, ⟨⟨rfl, Or.inl rfl⟩, ⟨⟨rfl, Or.inl rfl⟩, ⟨⟨rfl, Or.inl rfl⟩, ⟨⟨rfl, Or.inl rfl⟩, ⟨⟨rfl, Or.inl rfl⟩, ⟨⟨rfl, Or.inl rfl⟩, trivial⟩⟩⟩⟩⟩⟩⟩⟩⟩⟩⟩⟩⟩⟩⟩⟩⟩⟩⟩⟩⟩⟩⟩⟩⟩⟩⟩⟩⟩⟩⟩⟩⟩⟩⟩⟩⟩⟩⟩⟩⟩⟩⟩⟩⟩⟩⟩⟩⟩⟩⟩⟩⟩⟩⟩⟩⟩⟩⟩⟩⟩⟩⟩⟩⟩⟩
theorem b_FF_G (hG : wG hb (b_FF K a)) : wG hb (F2 K a) := ⟨hG.1, hG.2⟩
theorem iv_1 : iv 1 = 1 := by
  have h := iv_mul (v := 1) (by decide)
  have h2 := iv_lt 1
  omega
theorem DV_0 : DV S_0 := fun j _ => iv_1.symm
theorem PR_0 : PR S_0 0 (fun _ => 0) (fun _ => 0) := ⟨rfl, by decide, fun p hp => by omega⟩
theorem MPR_0 : MPR M_0 0 (fun _ => 0) (fun _ => 0) := ⟨rfl, by decide, fun p hp => by omega⟩
theorem first_FF2 {N : Nat} {h : fh_H} (hN : 25 ≤ N) (hG : wG h (b_FF K a)) : ∃ h1, weq (wl h (b_FF K a)) h1 ∧ ∃ b, fg_o h1 (some (a 0)) 0 = some b ∧ ∃ h2, f_FF_drawAll K N b h1 = some h2 ∧ ∃ L S, cs_I L ∧ L 0 0 = a 0 ∧ cs_W K L h h2 S ∧ CInv S 0 1 1 (fun _ => 0) (fun _ => 0) := by
  have hF := b_FF_G hG
  have hL := F2_I hF.1
  have hW := F2_W (hb := h) hF.1
  obtain ⟨S1, t1, i1⟩ := c_drawAll (N := N) (s := 1) (f := 1) (n := 0) (kd := fun _ => 0) (sr := fun _ => 0) (S := S_0) hN ⟨by decide, by decide⟩ ⟨by decide, by decide⟩ rfl rfl PR_0 DV_0
  obtain ⟨h9, e9, w9⟩ := u_FF_drawAll hL t1 hW
  exact ⟨wl h (F2 K a), wr_weq F2_wr, LL a 0 0, oi_o (hW.1 0 0 (by decide)), h9, e9, LL a, S1, hL, rfl, w9, i1⟩
/-! a new object of the class, wherever its cells lie -/
set_option maxHeartbeats 4000000 in
set_option maxRecDepth 100000 in
theorem first_FF {N q : Nat} {h : fh_H} (hN : 25 ≤ N) (hq : h q = none) : wf_FF K N q (fh_up h q z_FF) (fun h' => ∃ L S, cs_I L ∧ L 0 0 = q ∧ cs_W K L h h' S ∧ CInv S 0 1 1 (fun _ => 0) (fun _ => 0)) := by
  refine w_first (P := fun w => wf_FF K N q w _) hq (fun hG => ?_)
  unfold wf_FF
  unfold z_FF at hG ⊢
  refine n_Pl (fun p hB => ?_)
  obtain ⟨hG, e2⟩ := hG.blk hB
  rw [e2]
  refine w_put hG (w_lt rfl) (fun hG => ?_)
  refine n_Fs (fun s hB => ?_)
  obtain ⟨hG, e2⟩ := hG.blk hB
  rw [e2]
  refine w_put hG (w_lt rfl) (fun hG => ?_)
  refine n_Dr (fun d hB => ?_)
  obtain ⟨hG, e2⟩ := hG.blk hB
  rw [e2]
  refine w_put hG (w_lt rfl) (fun hG => w_put hG (w_lt rfl) (fun hG => w_put hG (w_lt rfl) (fun hG => ?_)))
  exact first_FF2 (a := fun i => [q, d 0, d 1, d 2, d 3, d 4, d 5, d 6, d 7, d 8, d 9, d 10, d 11, d 12, d 13, d 14, d 15, d 16, s 0, s 1, s 2, s 3, s 4, s 5, s 6, s 7, s 8, s 9, s 10, s 11, s 12, s 13, s 14, s 15, s 16, s 17, s 18, s 19, s 20, s 21, s 22, s 23, s 24, s 25, s 26, s 27, s 28, s 29, s 30, s 31, s 32, s 33, s 34, s 35, s 36, s 37, s 38, s 39, s 40, s 41, s 42, s 43, s 44, p 0, p 1, p 2].getD i 0) hN hG
end FIRST
/-! a new object of the model -/
def LM (a : Nat → Nat) : Nat → Nat → Nat := fun t i => a ((10 - t) % 10 + i)
section FIRSTM
variable {K : Nat → ClassId} {a : Nat → Nat} {hb : fh_H}
theorem b_Mo_fst : (b_Mo K a).map Prod.fst = (List.range 10).map a := rfl
theorem mbd_lt {t i : Nat} (h : i < ms_bd t) : t < 10 ∧ i = 0 := by
  rcases Nat.lt_or_ge t 10 with q | q
  · refine ⟨q, ?_⟩
    match t, q with
    | 0, _ => exact Nat.lt_one_iff.mp h
    | 1, _ => exact Nat.lt_one_iff.mp h
    | 2, _ => exact Nat.lt_one_iff.mp h
    | 3, _ => exact Nat.lt_one_iff.mp h
    | 4, _ => exact Nat.lt_one_iff.mp h
    | 5, _ => exact Nat.lt_one_iff.mp h
    | 6, _ => exact Nat.lt_one_iff.mp h
    | 7, _ => exact Nat.lt_one_iff.mp h
    | 8, _ => exact Nat.lt_one_iff.mp h
    | 9, _ => exact Nat.lt_one_iff.mp h
    | t + 10, q => omega
  · obtain ⟨u, rfl⟩ : ∃ u, t = u + 10 := ⟨t - 10, by omega⟩
    exact absurd (show i < 0 from h) (by omega)
theorem b_Mo_inj (hn : ((b_Mo K a).map Prod.fst).Nodup) {i j : Nat} (hi : i < 10) (hj : j < 10) (h : a i = a j) : i = j := by
  rw [b_Mo_fst] at hn
  refine (List.getElem?_inj (l := (List.range 10).map a) (i := i) (j := j) (by rw [List.length_map, List.length_range]; exact hi) hn).mp ?_
  rw [List.getElem?_map, List.getElem?_map, List.getElem?_range hi, List.getElem?_range hj]
  exact congrArg some h
theorem b_Mo_I (hn : ((b_Mo K a).map Prod.fst).Nodup) : ms_I (LM a) := by
  intro t i t2 i2 h1 h2 he
  obtain ⟨p1, rfl⟩ := mbd_lt h1
  obtain ⟨q1, rfl⟩ := mbd_lt h2
  have := b_Mo_inj hn (i := (10 - t) % 10 + 0) (j := (10 - t2) % 10 + 0) (by omega) (by omega) he
  exact ⟨by omega, rfl⟩
theorem b_Mo_mem {t : Nat} (ht : t < 10) : (LM a t 0, ms_Cell K (LM a) M_0 t 0) ∈ b_Mo K a := by
  match t, ht with
  | 0, _ => exact List.mem_of_getElem? (i := 0) rfl
  | 1, _ => exact List.mem_of_getElem? (i := 9) rfl
  | 2, _ => exact List.mem_of_getElem? (i := 8) rfl
  | 3, _ => exact List.mem_of_getElem? (i := 7) rfl
  | 4, _ => exact List.mem_of_getElem? (i := 6) rfl
  | 5, _ => exact List.mem_of_getElem? (i := 5) rfl
  | 6, _ => exact List.mem_of_getElem? (i := 4) rfl
  | 7, _ => exact List.mem_of_getElem? (i := 3) rfl
  | 8, _ => exact List.mem_of_getElem? (i := 2) rfl
  | 9, _ => exact List.mem_of_getElem? (i := 1) rfl
  | t + 10, h => omega
theorem b_Mo_W (hn : ((b_Mo K a).map Prod.fst).Nodup) : ms_W K (LM a) hb (wl hb (b_Mo K a)) M_0 := by
  refine ⟨fun t i h1 => ?_, fun q hq => wl_out (fun hm => ?_)⟩
  · obtain ⟨p1, rfl⟩ := mbd_lt h1
    exact wl_at hn (b_Mo_mem p1)
  · rw [b_Mo_fst] at hm
    obtain ⟨k, hk, rfl⟩ := List.mem_map.mp hm
    have hk := List.mem_range.mp hk
    have h1 : ∀ t, t < 10 → 0 < ms_bd t := by decide
    refine hq ((10 - k) % 10) 0 (h1 _ (by omega)) ?_
    unfold LM
    exact congrArg a (by omega)
theorem first_Mo2 {N : Nat} {h : fh_H} (hN : 25 ≤ N) (hG : wG h (b_Mo K a)) : ∃ b, fg_o (wl h (b_Mo K a)) (some (a 0)) 6 = some b ∧ ∃ h2, f_Mo_drawAll K N b (wl h (b_Mo K a)) = some h2 ∧ ∃ L M, ms_I L ∧ L 0 0 = a 0 ∧ ms_W K L h h2 M ∧ MInv M 0 1 1 (fun _ => 0) (fun _ => 0) ∧ ∀ t i, i < ms_bd t → h (L t i) = none := by
  have hL := b_Mo_I hG.1
  have hW := b_Mo_W (hb := h) hG.1
  obtain ⟨M1, t1, i1, -⟩ := mm_drawAll (N := N) (s := 1) (f := 1) (n := 0) (kd := fun _ => 0) (sr := fun _ => 0) (M := M_0) hN (by decide) (by decide) rfl rfl MPR_0
  obtain ⟨h9, e9, w9⟩ := u_Mo_drawAll hL t1 hW
  refine ⟨LM a 0 0, oi_o (hW.1 0 0 (by decide)), h9, e9, LM a, M1, hL, rfl, w9, i1, fun t i hi => ?_⟩
  obtain ⟨p1, rfl⟩ := mbd_lt hi
  exact hG.2 _ (List.mem_map_of_mem (f := Prod.fst) (b_Mo_mem (K := K) (a := a) p1))
set_option maxHeartbeats 4000000 in
set_option maxRecDepth 100000 in
theorem first_Mo {N q : Nat} {h : fh_H} (hN : 25 ≤ N) (hq : h q = none) : wf_Mo K N q (fh_up h q z_Mo) (fun h' => ∃ L M, ms_I L ∧ L 0 0 = q ∧ ms_W K L h h' M ∧ MInv M 0 1 1 (fun _ => 0) (fun _ => 0) ∧ ∀ t i, i < ms_bd t → h (L t i) = none) := by
  refine w_first (P := fun w => wf_Mo K N q w _) hq (fun hG => ?_)
  unfold wf_Mo
  unfold z_Mo at hG ⊢
  refine w_new hG (fun q1 hG => w_put hG (w_lt rfl) (fun hG => w_new hG (fun q2 hG => w_put hG (w_lt rfl) (fun hG => w_put hG (w_lt rfl) (fun hG => w_put hG (w_lt rfl) (fun hG => w_new hG (fun q3 hG => w_put hG (w_lt rfl) (fun hG => w_new hG (fun q4 hG => w_put hG (w_lt rfl) (fun hG => w_new hG (fun q5 hG => w_put hG (w_lt rfl) (fun hG => w_new hG (fun q6 hG => w_put hG (w_lt rfl) (fun hG => w_new hG (fun q7 hG => w_put hG (w_lt rfl) (fun hG => w_new hG (fun q8 hG => w_put hG (w_lt rfl) (fun hG => w_new hG (fun q9 hG => w_put hG (w_lt rfl) (fun hG => ?_))))))))))))))))))))
  exact first_Mo2 (a := fun i => [q, q9, q8, q7, q6, q5, q4, q3, q2, q1].getD i 0) hN hG
end FIRSTM
