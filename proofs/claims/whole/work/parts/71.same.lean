/-! the class's list is the model's walk -/
theorem en_a : ∀ n, n < 11 → ∀ k, k < 7 → (Ew k n).filter (fun w => ord k (rk w)) = En k n := by decide +kernel
theorem en_b : ∀ n, n < 11 → (Ew 8 n).filter (fun w => ord 8 (rk w)) = En 8 n := by decide +kernel
theorem en_c : ∀ n, n < 11 → (Ew 7 n).filter (fun w => ord 7 (rk w)) = En 7 n := by decide +kernel
theorem en_in : ∀ n, n < 11 → ∀ k, k < 9 → k ≠ 7 → ∀ w, w ∈ En k n → ∀ j, j < npk k → rk w j < n := by decide +kernel
theorem en_all {n k : Nat} (hn : n < 11) (hk : k < 9) : (Ew k n).filter (fun w => ord k (rk w)) = En k n := by
  by_cases h7 : k < 7
  · exact en_a n hn k h7
  · by_cases h8 : k = 8
    · subst h8; exact en_b n hn
    · have : k = 7 := by omega
      subst this; exact en_c n hn
theorem mem_prs {F : Nat → Nat → List Nat} {w : Nat} : ∀ (T : List Nat), w ∈ prs F T → ∃ x, x ∈ T ∧ ∃ y, y ∈ T ∧ w ∈ F x y := by
  intro T
  induction T with
  | nil => intro h; cases h
  | cons x T ih =>
    intro h
    rcases List.mem_append.mp h with h | h
    · obtain ⟨y, hy, hw⟩ := List.mem_flatMap.mp h
      exact ⟨x, List.mem_cons_self, y, List.mem_cons_of_mem _ hy, hw⟩
    · obtain ⟨x2, h1, y2, h2, h3⟩ := ih h
      exact ⟨x2, List.mem_cons_of_mem _ h1, y2, List.mem_cons_of_mem _ h2, h3⟩
section TOL
variable {f n : Nat} {b : Nat → Bool} {X Y : Nat → Nat → Int}
/-- the places are numbers below the prime -/
def XR (f n : Nat) (b : Nat → Bool) (X Y : Nat → Nat → Int) : Prop := ∀ g, g < f → b g = true → ∀ p, p < n → (0 ≤ X g p ∧ X g p < 1000003) ∧ (0 ≤ Y g p ∧ Y g p < 1000003)
theorem MD.xr {M : MS} (h : MD M f n b X Y) : XR f n b X Y := fun g hg hb p hp => ⟨(((h.2.2.2 g hg).2 hb).2.2 p hp).1.2, (((h.2.2.2 g hg).2 hb).2.2 p hp).2.2⟩
theorem hld_stn {k : Nat} {v : Nat → Nat} (h : hld f b X Y k v = true) : 0 < stn b f := by
  unfold hld at h
  by_cases hk : k < 8
  · rw [if_pos hk] at h
    exact (alw_iff.mp h).1
  · rw [if_neg hk, decide_eq_true_iff] at h
    have h2 := rat_so h
    unfold rtP at h2
    rw [Bool.and_eq_true] at h2
    exact (rtQ_iff.mp h2.2).1
theorem em_sam (hx : XR f n b X Y) {a c : Nat} (ha : a < n) (hc : c < n) (hs : 0 < stn b f) (h : emL f b X Y a c = true) : sam f b X Y a c = true := by
  refine sam_iff.mpr (Or.inr ⟨hs, fun g hg hb => ?_⟩)
  have h2 := (of_decide_eq_true h) g hg hb
  have r1 := hx g hg hb a ha
  have r2 := hx g hg hb c hc
  exact (len_z r1.1 r2.1 r1.2 r2.2).mp h2
theorem em_line {x v0 v1 v2 : Nat} (hs : 0 < stn b f) (h0 : rk x 0 = v0) (h1 : rk x 1 = v1) (h2 : rk x 2 = v2) : emC f b X Y v0 v1 v2 = alk f b X Y 1 (rk x) := by
  apply bool_ext
  unfold emC alk
  rw [decide_eq_true_iff, alw_iff]
  constructor
  · intro h
    refine ⟨hs, fun g hg hb => ?_⟩
    show decide (crs (X g) (Y g) (rk x 0) (rk x 1) (rk x 0) (rk x 2) % 1000003 = 0) = true
    rw [decide_eq_true_iff, h0, h1, h2]
    exact h g hg hb
  · intro h g hg hb
    have h3 : decide (crs (X g) (Y g) (rk x 0) (rk x 1) (rk x 0) (rk x 2) % 1000003 = 0) = true := h.2 g hg hb
    rw [decide_eq_true_iff, h0, h1, h2] at h3
    exact h3
theorem tol_mtl {k w : Nat} (hn : n < 11) (hk : k < 9) (hx : XR f n b X Y) (hw : w ∈ En k n) : tol f b X Y k w = mtl f b X Y k (rk w) := by
  have hord : ord k (rk w) = true := by
    have := hw
    rw [← en_all hn hk] at this
    exact (List.mem_filter.mp this).2
  apply bool_ext
  unfold tol mtl
  rw [decide_eq_true_iff]
  by_cases h0 : k = 0
  · subst h0
    rw [if_pos rfl]
    exact ⟨fun h => ⟨h, fun z => by omega, fun z => by omega, fun z => absurd z (by decide)⟩, fun h => h.1⟩
  · rw [if_neg h0]
    by_cases h7 : k = 7
    · subst h7
      rw [if_pos rfl]
      have hE := E1_ok n hn
      obtain ⟨x, hx1, y, hy1, hwxy⟩ := mem_prs (E1 n) (show w ∈ prs (fun x y => [x + y * 4096]) (E1 n) from hw)
      have hwe : w = x + y * 4096 := List.mem_singleton.mp hwxy
      have mx := hE.2 x hx1
      have my := hE.2 y hy1
      have q1 : w % 4096 = x := by omega
      have q2 : w / 4096 = y := by omega
      have j0 := rk_jn (y := y) mx.1 (j := 0) (by decide)
      have j1 := rk_jn (y := y) mx.1 (j := 1) (by decide)
      have j2 := rk_jn (y := y) mx.1 (j := 2) (by decide)
      rw [← hwe] at j0 j1 j2
      have hc : ctl7 f b X Y w = true ↔ (hld f b X Y 7 (rk w) = true ∧ apt (sam f b X Y) (rk w) (npk 7) = true ∧ ¬ alk f b X Y 1 (rk x) = true ∧ ¬ alk f b X Y 1 (rk y) = true) := by
        unfold ctl7 ctl nol
        rw [q1, q2]
        simp only [Bool.and_eq_true, Bool.not_eq_true', Bool.not_eq_true]
        constructor
        · intro h; exact ⟨h.1.1.1, h.1.1.2, h.1.2, h.2⟩
        · intro h; exact ⟨⟨⟨h.1, h.2.1⟩, h.2.2.1⟩, h.2.2.2⟩
      rw [hc]
      constructor
      · intro h
        have hs := hld_stn h.1
        refine ⟨h.1, fun _ => h.2.1, fun _ => ?_, fun z => absurd z (by decide)⟩
        rw [em_line hs j0.1.symm j1.1.symm j2.1.symm, em_line (x := y) hs j0.2.symm j1.2.symm j2.2.symm]
        exact h.2.2
      · intro h
        have hs := hld_stn h.1
        have h3 := h.2.2.1 rfl
        rw [em_line hs j0.1.symm j1.1.symm j2.1.symm, em_line (x := y) hs j0.2.symm j1.2.symm j2.2.symm] at h3
        exact ⟨h.1, h.2.1 (by decide), h3⟩
    · rw [if_neg h7]
      have hin := en_in n hn k hk h7 w hw
      unfold ctl
      rw [Bool.and_eq_true]
      constructor
      · intro h
        refine ⟨h.1, fun _ => h.2, fun z => absurd z h7, fun z => ?_⟩
        have hs := hld_stn h.1
        have ha := apt_iff.mp h.2
        have h4 : npk k = 4 ∧ rk w 0 < rk w 1 ∧ rk w 2 < rk w 3 := by
          unfold wys at z
          rw [decide_eq_true_iff] at z
          rcases z with z | z | z | z
          · subst z
            have := of_decide_eq_true hord
            exact ⟨rfl, this.1, this.2.1⟩
          · subst z
            have := of_decide_eq_true hord
            exact ⟨rfl, this.1, this.2.1⟩
          · subst z
            have := of_decide_eq_true hord
            exact ⟨rfl, this.1, this.2.1⟩
          · subst z
            have := of_decide_eq_true hord
            exact ⟨rfl, this.1, this.2.1⟩
        refine ⟨fun y => ?_, fun y => ?_⟩
        · have := ha 0 (by omega) 1 (by omega) (em_sam hx (hin 0 (by omega)) (hin 1 (by omega)) hs y)
          omega
        · have := ha 2 (by omega) 3 (by omega) (em_sam hx (hin 2 (by omega)) (hin 3 (by omega)) hs y)
          omega
      · intro h
        exact ⟨h.1, h.2.1 (by omega)⟩
theorem FL_eq {k : Nat} (hn : n < 11) (hk : k < 9) (hx : XR f n b X Y) : FL f n b X Y k = Vz f b X Y k (Ew k n) := by
  unfold FL Vz
  congr 1
  have : (Ew k n).filter (fun w => ord k (rk w) && mtl f b X Y k (rk w)) = ((Ew k n).filter (fun w => ord k (rk w))).filter (fun w => mtl f b X Y k (rk w)) := by
    rw [List.filter_filter]
    congr 1
    funext w
    exact Bool.and_comm _ _
  rw [this, en_all hn hk]
  apply List.filter_congr
  intro w hw
  exact tol_mtl hn hk hx hw
end TOL
