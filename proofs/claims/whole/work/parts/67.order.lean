/-! the model: the order of a fact's points -/
def ord (k : Nat) (v : Nat → Nat) : Bool := match k with
  | 0 => decide (v 0 < v 1)
  | 1 => decide (v 0 < v 1 ∧ v 1 < v 2)
  | 2 => decide (v 0 < v 1 ∧ v 2 < v 3 ∧ (v 0 < v 2 ∨ v 0 = v 2 ∧ v 1 < v 3) ∧ ¬ (v 0 = v 2 ∨ v 0 = v 3 ∨ v 1 = v 2 ∨ v 1 = v 3))
  | 5 => decide (v 0 < v 1 ∧ v 1 < v 2 ∧ v 2 < v 3)
  | 6 => decide (v 1 < v 2 ∧ v 0 ≠ v 1 ∧ v 0 ≠ v 2)
  | 7 => decide (v 0 < v 1 ∧ v 1 < v 2 ∧ v 3 < v 4 ∧ v 4 < v 5 ∧ (v 0 < v 3 ∨ v 0 = v 3 ∧ (v 1 < v 4 ∨ v 1 = v 4 ∧ v 2 < v 5)))
  | _ => decide (v 0 < v 1 ∧ v 2 < v 3 ∧ (v 0 < v 2 ∨ v 0 = v 2 ∧ v 1 < v 3))
section ORD
variable {N : Nat} {M : MS} {v : Nat → Nat}
theorem some_t {p : Prop} [Decidable p] (h : p) : some (1 : Int32) = some (bI (decide p)) := by
  rw [decide_eq_true h]; rfl
theorem some_f {p : Prop} [Decidable p] (h : ¬ p) : some (0 : Int32) = some (bI (decide p)) := by
  rw [decide_eq_false h]; rfl
theorem le_i {a c : Nat} (ha : a < 16) (hc : c < 16) : nI a ≤ nI c ↔ a ≤ c := nI_leI (by omega) (by omega)
theorem lt_i {a c : Nat} (ha : a < 16) (hc : c < 16) : nI a < nI c ↔ a < c := nI_ltI (by omega) (by omega)
theorem eq_i {a c : Nat} (ha : a < 16) (hc : c < 16) : nI a = nI c ↔ a = c := nI_eq (by omega) (by omega)
theorem m_before (hr : ∀ j, j < 6 → ms_row M j = nI (v j)) (hv : ∀ j, j < 6 → v j < 16) : t_Mo_isBefore N M = some (bI (decide (v 0 < v 3 ∨ v 0 = v 3 ∧ (v 1 < v 4 ∨ v 1 = v 4 ∧ v 2 < v 5)))) := by
  have u : ∀ j, j < 6 → ta 6 (ms_row M) (nI j) = some (nI (v j)) := fun j hj => by rw [ta_n hj (by decide), hr j hj]
  unfold t_Mo_isBefore
  refine bs (u 0 (by decide)) <| bs (u 3 (by decide)) ?_
  by_cases h1 : v 0 = v 3
  · refine (if_pos (by rw [h1])).trans <| bs (u 1 (by decide)) <| bs (u 4 (by decide)) ?_
    by_cases h2 : v 1 = v 4
    · refine (if_pos (by rw [h2])).trans <| bs (u 2 (by decide)) <| bs (u 5 (by decide)) ?_
      by_cases h3 : v 5 ≤ v 2
      · exact (if_pos ((le_i (hv 5 (by decide)) (hv 2 (by decide))).mpr h3)).trans (some_f (by omega))
      · exact (if_neg (fun z => h3 ((le_i (hv 5 (by decide)) (hv 2 (by decide))).mp z))).trans (some_t (by omega))
    · refine (if_neg (fun z => h2 ((eq_i (hv 1 (by decide)) (hv 4 (by decide))).mp z))).trans <| bs (u 1 (by decide)) <| bs (u 4 (by decide)) ?_
      by_cases h3 : v 4 ≤ v 1
      · exact (if_pos ((le_i (hv 4 (by decide)) (hv 1 (by decide))).mpr h3)).trans (some_f (by omega))
      · exact (if_neg (fun z => h3 ((le_i (hv 4 (by decide)) (hv 1 (by decide))).mp z))).trans (some_t (by omega))
  · refine (if_neg (fun z => h1 ((eq_i (hv 0 (by decide)) (hv 3 (by decide))).mp z))).trans <| bs (u 0 (by decide)) <| bs (u 3 (by decide)) ?_
    by_cases h3 : v 3 ≤ v 0
    · exact (if_pos ((le_i (hv 3 (by decide)) (hv 0 (by decide))).mpr h3)).trans (some_f (by omega))
    · exact (if_neg (fun z => h3 ((le_i (hv 3 (by decide)) (hv 0 (by decide))).mp z))).trans (some_t (by omega))
theorem m_ordered {k : Nat} (hk : k < 9) (hr : ∀ j, j < npk k → ms_row M j = nI (v j)) (hv : ∀ j, j < npk k → v j < 16) : t_Mo_isOrdered N (nI k) M = some (bI (ord k v)) := by
  have u : ∀ j, j < npk k → ta 6 (ms_row M) (nI j) = some (nI (v j)) := fun j hj => by rw [ta_n (Nat.lt_of_lt_of_le hj (npk_le k hk)) (by decide), hr j hj]
  unfold t_Mo_isOrdered
  match k, hk, hr, hv, u with
  | 0, _, hr, hv, u =>
    refine (if_pos rfl).trans ?_
    show _ = some (bI (decide (v 0 < v 1)))
    refine bs (u 0 (by decide)) <| bs (u 1 (by decide)) ?_
    by_cases h1 : v 1 ≤ v 0
    · refine (if_pos ((le_i (hv 1 (by decide)) (hv 0 (by decide))).mpr h1)).trans ?_
      exact some_f (by omega)
    · refine (if_neg (fun z => h1 ((le_i (hv 1 (by decide)) (hv 0 (by decide))).mp z))).trans ?_
      exact some_t (by omega)
  | 1, _, hr, hv, u =>
    refine (if_neg (by decide)).trans <| (if_pos rfl).trans ?_
    show _ = some (bI (decide (v 0 < v 1 ∧ v 1 < v 2)))
    refine bs (u 0 (by decide)) <| bs (u 1 (by decide)) ?_
    by_cases h1 : v 1 ≤ v 0
    · refine (if_pos ((le_i (hv 1 (by decide)) (hv 0 (by decide))).mpr h1)).trans ?_
      exact some_f (by omega)
    · refine (if_neg (fun z => h1 ((le_i (hv 1 (by decide)) (hv 0 (by decide))).mp z))).trans ?_
      refine bs (u 1 (by decide)) <| bs (u 2 (by decide)) ?_
      by_cases h2 : v 2 ≤ v 1
      · refine (if_pos ((le_i (hv 2 (by decide)) (hv 1 (by decide))).mpr h2)).trans ?_
        exact some_f (by omega)
      · refine (if_neg (fun z => h2 ((le_i (hv 2 (by decide)) (hv 1 (by decide))).mp z))).trans ?_
        exact some_t (by omega)
  | 2, _, hr, hv, u =>
    refine (if_neg (by decide)).trans <| (if_neg (by decide)).trans <| (if_pos rfl).trans ?_
    show _ = some (bI (decide (v 0 < v 1 ∧ v 2 < v 3 ∧ (v 0 < v 2 ∨ v 0 = v 2 ∧ v 1 < v 3) ∧ ¬ (v 0 = v 2 ∨ v 0 = v 3 ∨ v 1 = v 2 ∨ v 1 = v 3))))
    refine bs (u 0 (by decide)) <| bs (u 1 (by decide)) ?_
    by_cases h1 : v 1 ≤ v 0
    · refine (if_pos ((le_i (hv 1 (by decide)) (hv 0 (by decide))).mpr h1)).trans ?_
      unfold tb_Mo_isOrdered_359 tb_Mo_isOrdered_360
      exact (if_pos rfl).trans (some_f (by omega))
    · refine (if_neg (fun z => h1 ((le_i (hv 1 (by decide)) (hv 0 (by decide))).mp z))).trans ?_
      refine bs (u 2 (by decide)) <| bs (u 3 (by decide)) ?_
      by_cases h2 : v 3 ≤ v 2
      · refine (if_pos ((le_i (hv 3 (by decide)) (hv 2 (by decide))).mpr h2)).trans ?_
        unfold tb_Mo_isOrdered_359 tb_Mo_isOrdered_360
        exact (if_pos rfl).trans (some_f (by omega))
      · refine (if_neg (fun z => h2 ((le_i (hv 3 (by decide)) (hv 2 (by decide))).mp z))).trans ?_
        refine bs (u 0 (by decide)) <| bs (u 2 (by decide)) ?_
        by_cases h3 : v 0 < v 2
        · refine (if_pos ((lt_i (hv 0 (by decide)) (hv 2 (by decide))).mpr h3)).trans ?_
          unfold tb_Mo_isOrdered_355 tb_Mo_isOrdered_360
          refine (if_neg (by decide)).trans <| (if_pos rfl).trans ?_
          refine bs (u 0 (by decide)) <| bs (u 2 (by decide)) ?_
          by_cases h20 : v 0 = v 2
          · refine (if_pos ((eq_i (hv 0 (by decide)) (hv 2 (by decide))).mpr h20)).trans ?_
            exact some_f (by omega)
          · refine (if_neg (fun z => h20 ((eq_i (hv 0 (by decide)) (hv 2 (by decide))).mp z))).trans ?_
            refine bs (u 1 (by decide)) <| bs (u 2 (by decide)) ?_
            by_cases h21 : v 1 = v 2
            · refine (if_pos ((eq_i (hv 1 (by decide)) (hv 2 (by decide))).mpr h21)).trans ?_
              exact some_f (by omega)
            · refine (if_neg (fun z => h21 ((eq_i (hv 1 (by decide)) (hv 2 (by decide))).mp z))).trans ?_
              refine bs (u 1 (by decide)) <| bs (u 3 (by decide)) ?_
              by_cases h22 : v 1 = v 3
              · refine (if_pos ((eq_i (hv 1 (by decide)) (hv 3 (by decide))).mpr h22)).trans ?_
                exact some_f (by omega)
              · refine (if_neg (fun z => h22 ((eq_i (hv 1 (by decide)) (hv 3 (by decide))).mp z))).trans ?_
                refine bs (u 0 (by decide)) <| bs (u 3 (by decide)) ?_
                by_cases h23 : v 0 = v 3
                · refine (if_pos ((eq_i (hv 0 (by decide)) (hv 3 (by decide))).mpr h23)).trans ?_
                  exact some_f (by omega)
                · refine (if_neg (fun z => h23 ((eq_i (hv 0 (by decide)) (hv 3 (by decide))).mp z))).trans ?_
                  exact some_t (by omega)
        · refine (if_neg (fun z => h3 ((lt_i (hv 0 (by decide)) (hv 2 (by decide))).mp z))).trans ?_
          refine bs (u 0 (by decide)) <| bs (u 2 (by decide)) ?_
          by_cases h4 : v 0 = v 2
          · refine (if_pos ((eq_i (hv 0 (by decide)) (hv 2 (by decide))).mpr h4)).trans ?_
            refine bs (u 1 (by decide)) <| bs (u 3 (by decide)) ?_
            by_cases h5 : v 3 ≤ v 1
            · refine (if_pos ((le_i (hv 3 (by decide)) (hv 1 (by decide))).mpr h5)).trans ?_
              unfold tb_Mo_isOrdered_359 tb_Mo_isOrdered_360
              exact (if_pos rfl).trans (some_f (by omega))
            · refine (if_neg (fun z => h5 ((le_i (hv 3 (by decide)) (hv 1 (by decide))).mp z))).trans ?_
              unfold tb_Mo_isOrdered_355 tb_Mo_isOrdered_360
              refine (if_neg (by decide)).trans <| (if_pos rfl).trans ?_
              refine bs (u 0 (by decide)) <| bs (u 2 (by decide)) ?_
              by_cases h20 : v 0 = v 2
              · refine (if_pos ((eq_i (hv 0 (by decide)) (hv 2 (by decide))).mpr h20)).trans ?_
                exact some_f (by omega)
              · refine (if_neg (fun z => h20 ((eq_i (hv 0 (by decide)) (hv 2 (by decide))).mp z))).trans ?_
                refine bs (u 1 (by decide)) <| bs (u 2 (by decide)) ?_
                by_cases h21 : v 1 = v 2
                · refine (if_pos ((eq_i (hv 1 (by decide)) (hv 2 (by decide))).mpr h21)).trans ?_
                  exact some_f (by omega)
                · refine (if_neg (fun z => h21 ((eq_i (hv 1 (by decide)) (hv 2 (by decide))).mp z))).trans ?_
                  refine bs (u 1 (by decide)) <| bs (u 3 (by decide)) ?_
                  by_cases h22 : v 1 = v 3
                  · refine (if_pos ((eq_i (hv 1 (by decide)) (hv 3 (by decide))).mpr h22)).trans ?_
                    exact some_f (by omega)
                  · refine (if_neg (fun z => h22 ((eq_i (hv 1 (by decide)) (hv 3 (by decide))).mp z))).trans ?_
                    refine bs (u 0 (by decide)) <| bs (u 3 (by decide)) ?_
                    by_cases h23 : v 0 = v 3
                    · refine (if_pos ((eq_i (hv 0 (by decide)) (hv 3 (by decide))).mpr h23)).trans ?_
                      exact some_f (by omega)
                    · refine (if_neg (fun z => h23 ((eq_i (hv 0 (by decide)) (hv 3 (by decide))).mp z))).trans ?_
                      exact some_t (by omega)
          · refine (if_neg (fun z => h4 ((eq_i (hv 0 (by decide)) (hv 2 (by decide))).mp z))).trans ?_
            unfold tb_Mo_isOrdered_359 tb_Mo_isOrdered_360
            exact (if_pos rfl).trans (some_f (by omega))
  | 3, _, hr, hv, u =>
    refine (if_neg (by decide)).trans <| (if_neg (by decide)).trans <| (if_neg (by decide)).trans <| (if_pos rfl).trans ?_
    show _ = some (bI (decide (v 0 < v 1 ∧ v 2 < v 3 ∧ (v 0 < v 2 ∨ v 0 = v 2 ∧ v 1 < v 3))))
    refine bs (u 0 (by decide)) <| bs (u 1 (by decide)) ?_
    by_cases h1 : v 1 ≤ v 0
    · refine (if_pos ((le_i (hv 1 (by decide)) (hv 0 (by decide))).mpr h1)).trans ?_
      unfold tb_Mo_isOrdered_359 tb_Mo_isOrdered_360
      exact (if_pos rfl).trans (some_f (by omega))
    · refine (if_neg (fun z => h1 ((le_i (hv 1 (by decide)) (hv 0 (by decide))).mp z))).trans ?_
      refine bs (u 2 (by decide)) <| bs (u 3 (by decide)) ?_
      by_cases h2 : v 3 ≤ v 2
      · refine (if_pos ((le_i (hv 3 (by decide)) (hv 2 (by decide))).mpr h2)).trans ?_
        unfold tb_Mo_isOrdered_359 tb_Mo_isOrdered_360
        exact (if_pos rfl).trans (some_f (by omega))
      · refine (if_neg (fun z => h2 ((le_i (hv 3 (by decide)) (hv 2 (by decide))).mp z))).trans ?_
        refine bs (u 0 (by decide)) <| bs (u 2 (by decide)) ?_
        by_cases h3 : v 0 < v 2
        · refine (if_pos ((lt_i (hv 0 (by decide)) (hv 2 (by decide))).mpr h3)).trans ?_
          unfold tb_Mo_isOrdered_355 tb_Mo_isOrdered_360
          exact (if_neg (by decide)).trans <| (if_neg (by decide)).trans (some_t (by omega))
        · refine (if_neg (fun z => h3 ((lt_i (hv 0 (by decide)) (hv 2 (by decide))).mp z))).trans ?_
          refine bs (u 0 (by decide)) <| bs (u 2 (by decide)) ?_
          by_cases h4 : v 0 = v 2
          · refine (if_pos ((eq_i (hv 0 (by decide)) (hv 2 (by decide))).mpr h4)).trans ?_
            refine bs (u 1 (by decide)) <| bs (u 3 (by decide)) ?_
            by_cases h5 : v 3 ≤ v 1
            · refine (if_pos ((le_i (hv 3 (by decide)) (hv 1 (by decide))).mpr h5)).trans ?_
              unfold tb_Mo_isOrdered_359 tb_Mo_isOrdered_360
              exact (if_pos rfl).trans (some_f (by omega))
            · refine (if_neg (fun z => h5 ((le_i (hv 3 (by decide)) (hv 1 (by decide))).mp z))).trans ?_
              unfold tb_Mo_isOrdered_355 tb_Mo_isOrdered_360
              exact (if_neg (by decide)).trans <| (if_neg (by decide)).trans (some_t (by omega))
          · refine (if_neg (fun z => h4 ((eq_i (hv 0 (by decide)) (hv 2 (by decide))).mp z))).trans ?_
            unfold tb_Mo_isOrdered_359 tb_Mo_isOrdered_360
            exact (if_pos rfl).trans (some_f (by omega))
  | 4, _, hr, hv, u =>
    refine (if_neg (by decide)).trans <| (if_neg (by decide)).trans <| (if_neg (by decide)).trans <| (if_neg (by decide)).trans <| (if_pos rfl).trans ?_
    show _ = some (bI (decide (v 0 < v 1 ∧ v 2 < v 3 ∧ (v 0 < v 2 ∨ v 0 = v 2 ∧ v 1 < v 3))))
    refine bs (u 0 (by decide)) <| bs (u 1 (by decide)) ?_
    by_cases h1 : v 1 ≤ v 0
    · refine (if_pos ((le_i (hv 1 (by decide)) (hv 0 (by decide))).mpr h1)).trans ?_
      unfold tb_Mo_isOrdered_359 tb_Mo_isOrdered_360
      exact (if_pos rfl).trans (some_f (by omega))
    · refine (if_neg (fun z => h1 ((le_i (hv 1 (by decide)) (hv 0 (by decide))).mp z))).trans ?_
      refine bs (u 2 (by decide)) <| bs (u 3 (by decide)) ?_
      by_cases h2 : v 3 ≤ v 2
      · refine (if_pos ((le_i (hv 3 (by decide)) (hv 2 (by decide))).mpr h2)).trans ?_
        unfold tb_Mo_isOrdered_359 tb_Mo_isOrdered_360
        exact (if_pos rfl).trans (some_f (by omega))
      · refine (if_neg (fun z => h2 ((le_i (hv 3 (by decide)) (hv 2 (by decide))).mp z))).trans ?_
        refine bs (u 0 (by decide)) <| bs (u 2 (by decide)) ?_
        by_cases h3 : v 0 < v 2
        · refine (if_pos ((lt_i (hv 0 (by decide)) (hv 2 (by decide))).mpr h3)).trans ?_
          unfold tb_Mo_isOrdered_355 tb_Mo_isOrdered_360
          exact (if_neg (by decide)).trans <| (if_neg (by decide)).trans (some_t (by omega))
        · refine (if_neg (fun z => h3 ((lt_i (hv 0 (by decide)) (hv 2 (by decide))).mp z))).trans ?_
          refine bs (u 0 (by decide)) <| bs (u 2 (by decide)) ?_
          by_cases h4 : v 0 = v 2
          · refine (if_pos ((eq_i (hv 0 (by decide)) (hv 2 (by decide))).mpr h4)).trans ?_
            refine bs (u 1 (by decide)) <| bs (u 3 (by decide)) ?_
            by_cases h5 : v 3 ≤ v 1
            · refine (if_pos ((le_i (hv 3 (by decide)) (hv 1 (by decide))).mpr h5)).trans ?_
              unfold tb_Mo_isOrdered_359 tb_Mo_isOrdered_360
              exact (if_pos rfl).trans (some_f (by omega))
            · refine (if_neg (fun z => h5 ((le_i (hv 3 (by decide)) (hv 1 (by decide))).mp z))).trans ?_
              unfold tb_Mo_isOrdered_355 tb_Mo_isOrdered_360
              exact (if_neg (by decide)).trans <| (if_neg (by decide)).trans (some_t (by omega))
          · refine (if_neg (fun z => h4 ((eq_i (hv 0 (by decide)) (hv 2 (by decide))).mp z))).trans ?_
            unfold tb_Mo_isOrdered_359 tb_Mo_isOrdered_360
            exact (if_pos rfl).trans (some_f (by omega))
  | 5, _, hr, hv, u =>
    refine (if_neg (by decide)).trans <| (if_neg (by decide)).trans <| (if_neg (by decide)).trans <| (if_neg (by decide)).trans <| (if_neg (by decide)).trans <| (if_pos rfl).trans ?_
    show _ = some (bI (decide (v 0 < v 1 ∧ v 1 < v 2 ∧ v 2 < v 3)))
    refine bs (u 0 (by decide)) <| bs (u 1 (by decide)) ?_
    by_cases h1 : v 1 ≤ v 0
    · refine (if_pos ((le_i (hv 1 (by decide)) (hv 0 (by decide))).mpr h1)).trans ?_
      exact some_f (by omega)
    · refine (if_neg (fun z => h1 ((le_i (hv 1 (by decide)) (hv 0 (by decide))).mp z))).trans ?_
      refine bs (u 1 (by decide)) <| bs (u 2 (by decide)) ?_
      by_cases h2 : v 2 ≤ v 1
      · refine (if_pos ((le_i (hv 2 (by decide)) (hv 1 (by decide))).mpr h2)).trans ?_
        exact some_f (by omega)
      · refine (if_neg (fun z => h2 ((le_i (hv 2 (by decide)) (hv 1 (by decide))).mp z))).trans ?_
        refine bs (u 2 (by decide)) <| bs (u 3 (by decide)) ?_
        by_cases h3 : v 3 ≤ v 2
        · refine (if_pos ((le_i (hv 3 (by decide)) (hv 2 (by decide))).mpr h3)).trans ?_
          exact some_f (by omega)
        · refine (if_neg (fun z => h3 ((le_i (hv 3 (by decide)) (hv 2 (by decide))).mp z))).trans ?_
          exact some_t (by omega)
  | 6, _, hr, hv, u =>
    refine (if_neg (by decide)).trans <| (if_neg (by decide)).trans <| (if_neg (by decide)).trans <| (if_neg (by decide)).trans <| (if_neg (by decide)).trans <| (if_neg (by decide)).trans <| (if_pos rfl).trans ?_
    show _ = some (bI (decide (v 1 < v 2 ∧ v 0 ≠ v 1 ∧ v 0 ≠ v 2)))
    refine bs (u 1 (by decide)) <| bs (u 2 (by decide)) ?_
    by_cases h1 : v 2 ≤ v 1
    · refine (if_pos ((le_i (hv 2 (by decide)) (hv 1 (by decide))).mpr h1)).trans ?_
      exact some_f (by omega)
    · refine (if_neg (fun z => h1 ((le_i (hv 2 (by decide)) (hv 1 (by decide))).mp z))).trans ?_
      refine bs (u 0 (by decide)) <| bs (u 1 (by decide)) ?_
      by_cases h2 : v 0 = v 1
      · refine (if_pos ((eq_i (hv 0 (by decide)) (hv 1 (by decide))).mpr h2)).trans ?_
        exact some_f (by omega)
      · refine (if_neg (fun z => h2 ((eq_i (hv 0 (by decide)) (hv 1 (by decide))).mp z))).trans ?_
        refine bs (u 0 (by decide)) <| bs (u 2 (by decide)) ?_
        by_cases h3 : v 0 = v 2
        · refine (if_pos ((eq_i (hv 0 (by decide)) (hv 2 (by decide))).mpr h3)).trans ?_
          exact some_f (by omega)
        · refine (if_neg (fun z => h3 ((eq_i (hv 0 (by decide)) (hv 2 (by decide))).mp z))).trans ?_
          exact some_t (by omega)
  | 7, _, hr, hv, u =>
    refine (if_neg (by decide)).trans <| (if_neg (by decide)).trans <| (if_neg (by decide)).trans <| (if_neg (by decide)).trans <| (if_neg (by decide)).trans <| (if_neg (by decide)).trans <| (if_neg (by decide)).trans <| (if_pos rfl).trans ?_
    show _ = some (bI (decide (v 0 < v 1 ∧ v 1 < v 2 ∧ v 3 < v 4 ∧ v 4 < v 5 ∧ (v 0 < v 3 ∨ v 0 = v 3 ∧ (v 1 < v 4 ∨ v 1 = v 4 ∧ v 2 < v 5)))))
    refine bs (u 0 (by decide)) <| bs (u 1 (by decide)) ?_
    by_cases h1 : v 1 ≤ v 0
    · refine (if_pos ((le_i (hv 1 (by decide)) (hv 0 (by decide))).mpr h1)).trans ?_
      exact some_f (by omega)
    · refine (if_neg (fun z => h1 ((le_i (hv 1 (by decide)) (hv 0 (by decide))).mp z))).trans ?_
      refine bs (u 1 (by decide)) <| bs (u 2 (by decide)) ?_
      by_cases h2 : v 2 ≤ v 1
      · refine (if_pos ((le_i (hv 2 (by decide)) (hv 1 (by decide))).mpr h2)).trans ?_
        exact some_f (by omega)
      · refine (if_neg (fun z => h2 ((le_i (hv 2 (by decide)) (hv 1 (by decide))).mp z))).trans ?_
        refine bs (u 3 (by decide)) <| bs (u 4 (by decide)) ?_
        by_cases h3 : v 4 ≤ v 3
        · refine (if_pos ((le_i (hv 4 (by decide)) (hv 3 (by decide))).mpr h3)).trans ?_
          exact some_f (by omega)
        · refine (if_neg (fun z => h3 ((le_i (hv 4 (by decide)) (hv 3 (by decide))).mp z))).trans ?_
          refine bs (u 4 (by decide)) <| bs (u 5 (by decide)) ?_
          by_cases h4 : v 5 ≤ v 4
          · refine (if_pos ((le_i (hv 5 (by decide)) (hv 4 (by decide))).mpr h4)).trans ?_
            exact some_f (by omega)
          · refine (if_neg (fun z => h4 ((le_i (hv 5 (by decide)) (hv 4 (by decide))).mp z))).trans ?_
            refine bs (m_before hr hv) ?_
            by_cases h9 : v 0 < v 3 ∨ v 0 = v 3 ∧ (v 1 < v 4 ∨ v 1 = v 4 ∧ v 2 < v 5)
            · rw [decide_eq_true h9]
              exact (if_neg (by decide)).trans (some_t (by omega))
            · rw [decide_eq_false h9]
              exact (if_pos (by decide)).trans (some_f (by omega))
  | 8, _, hr, hv, u =>
    refine (if_neg (by decide)).trans <| (if_neg (by decide)).trans <| (if_neg (by decide)).trans <| (if_neg (by decide)).trans <| (if_neg (by decide)).trans <| (if_neg (by decide)).trans <| (if_neg (by decide)).trans <| (if_neg (by decide)).trans ?_
    show _ = some (bI (decide (v 0 < v 1 ∧ v 2 < v 3 ∧ (v 0 < v 2 ∨ v 0 = v 2 ∧ v 1 < v 3))))
    refine bs (u 0 (by decide)) <| bs (u 1 (by decide)) ?_
    by_cases h1 : v 1 ≤ v 0
    · refine (if_pos ((le_i (hv 1 (by decide)) (hv 0 (by decide))).mpr h1)).trans ?_
      unfold tb_Mo_isOrdered_359 tb_Mo_isOrdered_360
      exact (if_pos rfl).trans (some_f (by omega))
    · refine (if_neg (fun z => h1 ((le_i (hv 1 (by decide)) (hv 0 (by decide))).mp z))).trans ?_
      refine bs (u 2 (by decide)) <| bs (u 3 (by decide)) ?_
      by_cases h2 : v 3 ≤ v 2
      · refine (if_pos ((le_i (hv 3 (by decide)) (hv 2 (by decide))).mpr h2)).trans ?_
        unfold tb_Mo_isOrdered_359 tb_Mo_isOrdered_360
        exact (if_pos rfl).trans (some_f (by omega))
      · refine (if_neg (fun z => h2 ((le_i (hv 3 (by decide)) (hv 2 (by decide))).mp z))).trans ?_
        refine bs (u 0 (by decide)) <| bs (u 2 (by decide)) ?_
        by_cases h3 : v 0 < v 2
        · refine (if_pos ((lt_i (hv 0 (by decide)) (hv 2 (by decide))).mpr h3)).trans ?_
          unfold tb_Mo_isOrdered_355 tb_Mo_isOrdered_360
          exact (if_neg (by decide)).trans <| (if_neg (by decide)).trans (some_t (by omega))
        · refine (if_neg (fun z => h3 ((lt_i (hv 0 (by decide)) (hv 2 (by decide))).mp z))).trans ?_
          refine bs (u 0 (by decide)) <| bs (u 2 (by decide)) ?_
          by_cases h4 : v 0 = v 2
          · refine (if_pos ((eq_i (hv 0 (by decide)) (hv 2 (by decide))).mpr h4)).trans ?_
            refine bs (u 1 (by decide)) <| bs (u 3 (by decide)) ?_
            by_cases h5 : v 3 ≤ v 1
            · refine (if_pos ((le_i (hv 3 (by decide)) (hv 1 (by decide))).mpr h5)).trans ?_
              unfold tb_Mo_isOrdered_359 tb_Mo_isOrdered_360
              exact (if_pos rfl).trans (some_f (by omega))
            · refine (if_neg (fun z => h5 ((le_i (hv 3 (by decide)) (hv 1 (by decide))).mp z))).trans ?_
              unfold tb_Mo_isOrdered_355 tb_Mo_isOrdered_360
              exact (if_neg (by decide)).trans <| (if_neg (by decide)).trans (some_t (by omega))
          · refine (if_neg (fun z => h4 ((eq_i (hv 0 (by decide)) (hv 2 (by decide))).mp z))).trans ?_
            unfold tb_Mo_isOrdered_359 tb_Mo_isOrdered_360
            exact (if_pos rfl).trans (some_f (by omega))
  | k + 9, hk, _, _, _ => exact absurd hk (by omega)
end ORD
