/-! the class's list is the model's walk -/
theorem en_a : ∀ n, n < 11 → ∀ k, k < 7 → (Ew k n).filter (fun w => ord k (rk w)) = En k n := by decide +kernel
theorem en_b : ∀ n, n < 11 → (Ew 8 n).filter (fun w => ord 8 (rk w)) = En 8 n := by decide +kernel
theorem en_in : ∀ n, n < 11 → ∀ k, k < 9 → k ≠ 7 → ∀ w, w ∈ En k n → ∀ j, j < npk k → rk w j < n := by decide +kernel
/-! areas: two triples in their order -/
theorem fm_if {g : Nat → List Nat} {a n : Nat} : fm (fun c => if a < c then g c else []) 0 n = fm g (a + 1) n := by
  have h1 : ∀ (m lo : Nat), n - lo = m → a + 1 ≤ lo → fm (fun c => if a < c then g c else []) lo n = fm g lo n := fun m lo _ h => fm_congr (fun p hp _ => if_pos (by omega))
  have h2 : ∀ (m lo : Nat), a + 1 - lo = m → lo ≤ a + 1 → fm (fun c => if a < c then g c else []) lo n = fm g (a + 1) n := by
    intro m
    induction m with
    | zero =>
      intro lo h3 h4
      have : lo = a + 1 := by omega
      rw [this]
      exact h1 _ _ rfl (Nat.le_refl _)
    | succ m ih =>
      intro lo h3 h4
      by_cases hn : lo < n
      · rw [fm_s hn, if_neg (by omega), List.nil_append]
        exact ih (lo + 1) (by omega) (by omega)
      · rw [fm_0 (by omega), fm_0 (by omega)]
  exact h2 (a + 1) 0 (by omega) (by omega)
theorem fm_out {p : Prop} [Decidable p] {g : Nat → List Nat} {lo n : Nat} : fm (fun e => if p then g e else []) lo n = if p then fm g lo n else [] := by
  by_cases hp : p
  · rw [if_pos hp]
    exact fm_congr (fun _ _ _ => if_pos hp)
  · rw [if_neg hp]
    have h : ∀ (m lo : Nat), n - lo = m → fm (fun e => if p then g e else []) lo n = [] := by
      intro m
      induction m with
      | zero => intro lo hm; rw [fm_0 (by omega)]
      | succ m ih => intro lo hm; rw [fm_s (by omega), if_neg hp, List.nil_append]; exact ih (lo + 1) (by omega)
    exact h _ _ rfl
theorem fm_flat {g : Nat → List Nat} {h : Nat → List Nat} {lo n : Nat} : (fm g lo n).flatMap h = fm (fun a => (g a).flatMap h) lo n := by
  unfold fm
  rw [List.flatMap_assoc]
theorem w6_two (a c d e x y : Nat) : w6 a c d e x y = w6 a c d 0 0 0 + w6 e x y 0 0 0 * 4096 := by
  unfold w6
  omega
theorem E1_flat (n : Nat) (h : Nat → List Nat) : (E1 n).flatMap h = fm (fun a => fm (fun c => fm (fun d => h (w6 a c d 0 0 0)) (c + 1) n) (a + 1) n) 0 n := by
  unfold E1
  simp only [fm_flat, List.flatMap_cons, List.flatMap_nil, List.append_nil]
theorem Wt7 (n a c : Nat) : Wt 7 n a c = fm (fun d => (E1 n).flatMap (fun u => [w6 a c d 0 0 0 + u * 4096])) (c + 1) n := by
  have h1 : ∀ d, (if npk 7 = 3 then [w6 a c d 0 0 0] else Wm 7 n a c d) = if c < d then (E1 n).flatMap (fun u => [w6 a c d 0 0 0 + u * 4096]) else [] := by
    intro d
    rw [if_neg (show ¬ npk 7 = 3 by decide), E1_flat]
    show fm (fun e => if c < d then Wa n a c d e else []) 0 n = _
    rw [fm_out]
    by_cases hcd : c < d
    · rw [if_pos hcd, if_pos hcd]
      unfold Wa
      exact fm_congr (fun e _ _ => fm_congr (fun x _ _ => fm_congr (fun y _ _ => congrArg (fun z => [z]) (w6_two a c d e x y))))
    · rw [if_neg hcd, if_neg hcd]
  show fm (fun d => if npk 7 = 3 then [w6 a c d 0 0 0] else Wm 7 n a c d) 0 n = _
  rw [fm_congr (fun d _ _ => h1 d), fm_if]
theorem Ew7 (n : Nat) : Ew 7 n = (E1 n).flatMap (fun t => (E1 n).flatMap (fun u => [t + u * 4096])) := by
  rw [E1_flat n (fun t => (E1 n).flatMap (fun u => [t + u * 4096]))]
  show fm (fun a => fm (fun c => if 7 = 0 then [w6 a c 0 0 0 0] else if 7 = 6 ∨ a < c then Wt 7 n a c else []) 0 n) 0 n = _
  apply fm_congr
  intro a _ _
  have h4 : ∀ c, (if 7 = 0 then [w6 a c 0 0 0 0] else if 7 = 6 ∨ a < c then Wt 7 n a c else []) = if a < c then Wt 7 n a c else [] := by
    intro c
    rw [if_neg (show ¬ 7 = 0 by decide)]
    by_cases h : a < c
    · rw [if_pos (Or.inr h), if_pos h]
    · rw [if_neg (show ¬ (7 = 6 ∨ a < c) by omega), if_neg h]
  rw [fm_congr (fun c _ _ => h4 c), fm_if]
  exact fm_congr (fun c _ _ => Wt7 n a c)
/-- a triple ahead of another -/
def bef (t u : Nat) : Bool := decide (rk t 0 < rk u 0 ∨ rk t 0 = rk u 0 ∧ (rk t 1 < rk u 1 ∨ rk t 1 = rk u 1 ∧ rk t 2 < rk u 2))
theorem E1_so : ∀ n, n < 11 → (E1 n).Pairwise (fun t u => bef t u = true ∧ bef u t = false) := by decide +kernel
theorem E1_inc : ∀ n, n < 11 → ∀ t, t ∈ E1 n → rk t 0 < rk t 1 ∧ rk t 1 < rk t 2 := by decide +kernel
theorem bef_rf (t : Nat) : bef t t = false := decide_eq_false (by omega)
theorem prs_bef {F : Nat → Nat → List Nat} : ∀ (T : List Nat), T.Pairwise (fun t u => bef t u = true ∧ bef u t = false) → T.flatMap (fun t => T.flatMap (fun u => if bef t u = true then F t u else [])) = prs F T := by
  intro T
  induction T with
  | nil => intro _; rfl
  | cons x T ih =>
    intro h
    obtain ⟨h1, h2⟩ := List.pairwise_cons.mp h
    have e1 : (x :: T).flatMap (fun u => if bef x u = true then F x u else []) = T.flatMap (F x) := by
      rw [List.flatMap_cons, bef_rf, if_neg (by decide), List.nil_append]
      have : ∀ (T2 : List Nat), (∀ y, y ∈ T2 → bef x y = true) → T2.flatMap (fun u => if bef x u = true then F x u else []) = T2.flatMap (F x) := by
        intro T2
        induction T2 with
        | nil => intro _; rfl
        | cons y T2 ih2 =>
          intro h3
          rw [List.flatMap_cons, List.flatMap_cons, if_pos (h3 y List.mem_cons_self), ih2 (fun z hz => h3 z (List.mem_cons_of_mem _ hz))]
      exact this T (fun y hy => (h1 y hy).1)
    have e2 : ∀ (T2 : List Nat), (∀ y, y ∈ T2 → bef y x = false) → T2.flatMap (fun t => (x :: T).flatMap (fun u => if bef t u = true then F t u else [])) = T2.flatMap (fun t => T.flatMap (fun u => if bef t u = true then F t u else [])) := by
      intro T2
      induction T2 with
      | nil => intro _; rfl
      | cons y T2 ih2 =>
        intro h3
        show (x :: T).flatMap (fun u => if bef y u = true then F y u else []) ++ T2.flatMap (fun t => (x :: T).flatMap (fun u => if bef t u = true then F t u else [])) = T.flatMap (fun u => if bef y u = true then F y u else []) ++ T2.flatMap (fun t => T.flatMap (fun u => if bef t u = true then F t u else []))
        rw [ih2 (fun z hz => h3 z (List.mem_cons_of_mem _ hz))]
        congr 1
        show (if bef y x = true then F y x else []) ++ T.flatMap (fun u => if bef y u = true then F y u else []) = _
        rw [h3 y List.mem_cons_self, if_neg (by decide), List.nil_append]
    rw [List.flatMap_cons, e1, e2 T (fun y hy => (h1 y hy).2), ih h2]
    rfl
theorem ord7 {n t u : Nat} (hn : n < 11) (ht : t ∈ E1 n) (hu : u ∈ E1 n) : ord 7 (rk (t + u * 4096)) = bef t u := by
  have hE := E1_ok n hn
  have mt := hE.2 t ht
  have it := E1_inc n hn t ht
  have iu := E1_inc n hn u hu
  have j0 := rk_jn (y := u) mt.1 (j := 0) (by decide)
  have j1 := rk_jn (y := u) mt.1 (j := 1) (by decide)
  have j2 := rk_jn (y := u) mt.1 (j := 2) (by decide)
  show decide _ = decide _
  apply decide_eq_decide.mpr
  rw [j0.1, j1.1, j2.1, show (3 : Nat) = 0 + 3 from rfl, show (4 : Nat) = 1 + 3 from rfl, show (5 : Nat) = 2 + 3 from rfl, j0.2, j1.2, j2.2]
  constructor
  · intro h; exact h.2.2.2.2
  · intro h; exact ⟨it.1, it.2, iu.1, iu.2, h⟩
theorem fl_cg {g h : Nat → List Nat} : ∀ (T : List Nat), (∀ y, y ∈ T → g y = h y) → T.flatMap g = T.flatMap h := by
  intro T
  induction T with
  | nil => intro _; rfl
  | cons y T ih =>
    intro e
    rw [List.flatMap_cons, List.flatMap_cons, e y List.mem_cons_self, ih (fun z hz => e z (List.mem_cons_of_mem _ hz))]
theorem en_c (n : Nat) (hn : n < 11) : (Ew 7 n).filter (fun w => ord 7 (rk w)) = En 7 n := by
  rw [Ew7, List.filter_flatMap]
  show _ = prs (fun x y => [x + y * 4096]) (E1 n)
  rw [← prs_bef (E1 n) (E1_so n hn)]
  apply fl_cg
  intro t ht
  rw [List.filter_flatMap]
  apply fl_cg
  intro u hu
  by_cases hb : bef t u = true
  · rw [if_pos hb, List.filter_cons_of_pos (by rw [ord7 hn ht hu]; exact hb), List.filter_nil]
  · rw [if_neg hb, List.filter_cons_of_neg (by rw [ord7 hn ht hu]; exact hb), List.filter_nil]
theorem en_all {n k : Nat} (hn : n < 11) (hk : k < 9) : (Ew k n).filter (fun w => ord k (rk w)) = En k n := by
  by_cases h7 : k < 7
  · exact en_a n hn k h7
  · by_cases h8 : k = 8
    · subst h8; exact en_b n hn
    · have : k = 7 := by omega
      subst this; exact en_c n hn
theorem mem_prs {F : Nat → Nat → List Nat} {w : Nat} : ∀ (T : List Nat), w ∈ prs F T → ∃ x, x ∈ T ∧ ∃ y, y ∈ T ∧ w ∈ F x y := by
  intro T
  induction T with
  | nil => intro h; cases h
  | cons x T ih =>
    intro h
    rcases List.mem_append.mp h with h | h
    · obtain ⟨y, hy, hw⟩ := List.mem_flatMap.mp h
      exact ⟨x, List.mem_cons_self, y, List.mem_cons_of_mem _ hy, hw⟩
    · obtain ⟨x2, h1, y2, h2, h3⟩ := ih h
      exact ⟨x2, List.mem_cons_of_mem _ h1, y2, List.mem_cons_of_mem _ h2, h3⟩
section TOL
variable {f n : Nat} {b : Nat → Bool} {X Y : Nat → Nat → Int}
/-- the places are numbers below the prime -/
def XR (f n : Nat) (b : Nat → Bool) (X Y : Nat → Nat → Int) : Prop := ∀ g, g < f → b g = true → ∀ p, p < n → (0 ≤ X g p ∧ X g p < 1000003) ∧ (0 ≤ Y g p ∧ Y g p < 1000003)
theorem MD.xr {M : MS} (h : MD M f n b X Y) : XR f n b X Y := fun g hg hb p hp => ⟨(((h.2.2.2 g hg).2 hb).2.2 p hp).1.2, (((h.2.2.2 g hg).2 hb).2.2 p hp).2.2⟩
theorem hld_stn {k : Nat} {v : Nat → Nat} (h : hld f b X Y k v = true) : 0 < stn b f := by
  unfold hld at h
  by_cases hk : k < 8
  · rw [if_pos hk] at h
    exact (alw_iff.mp h).1
  · rw [if_neg hk, decide_eq_true_iff] at h
    have h2 := rat_so h
    unfold rtP at h2
    rw [Bool.and_eq_true] at h2
    exact (rtQ_iff.mp h2.2).1
theorem em_sam (hx : XR f n b X Y) {a c : Nat} (ha : a < n) (hc : c < n) (hs : 0 < stn b f) (h : emL f b X Y a c = true) : sam f b X Y a c = true := by
  refine sam_iff.mpr (Or.inr ⟨hs, fun g hg hb => ?_⟩)
  have h2 := (of_decide_eq_true h) g hg hb
  have r1 := hx g hg hb a ha
  have r2 := hx g hg hb c hc
  exact (len_z r1.1 r2.1 r1.2 r2.2).mp h2
theorem em_line {x v0 v1 v2 : Nat} (hs : 0 < stn b f) (h0 : rk x 0 = v0) (h1 : rk x 1 = v1) (h2 : rk x 2 = v2) : emC f b X Y v0 v1 v2 = alk f b X Y 1 (rk x) := by
  apply bool_ext
  unfold emC alk
  rw [decide_eq_true_iff, alw_iff]
  constructor
  · intro h
    refine ⟨hs, fun g hg hb => ?_⟩
    show decide (crs (X g) (Y g) (rk x 0) (rk x 1) (rk x 0) (rk x 2) % 1000003 = 0) = true
    rw [decide_eq_true_iff, h0, h1, h2]
    exact h g hg hb
  · intro h g hg hb
    have h3 : decide (crs (X g) (Y g) (rk x 0) (rk x 1) (rk x 0) (rk x 2) % 1000003 = 0) = true := h.2 g hg hb
    rw [decide_eq_true_iff, h0, h1, h2] at h3
    exact h3
theorem tol_mtl {k w : Nat} (hn : n < 11) (hk : k < 9) (hx : XR f n b X Y) (hw : w ∈ En k n) : tol f b X Y k w = mtl f b X Y k (rk w) := by
  have hord : ord k (rk w) = true := by
    have := hw
    rw [← en_all hn hk] at this
    exact (List.mem_filter.mp this).2
  apply bool_ext
  unfold tol mtl
  rw [decide_eq_true_iff]
  by_cases h0 : k = 0
  · subst h0
    rw [if_pos rfl]
    exact ⟨fun h => ⟨h, fun z => by omega, fun z => by omega, fun z => absurd z (by decide)⟩, fun h => h.1⟩
  · rw [if_neg h0]
    by_cases h7 : k = 7
    · subst h7
      rw [if_pos rfl]
      have hE := E1_ok n hn
      obtain ⟨x, hx1, y, hy1, hwxy⟩ := mem_prs (E1 n) (show w ∈ prs (fun x y => [x + y * 4096]) (E1 n) from hw)
      have hwe : w = x + y * 4096 := List.mem_singleton.mp hwxy
      have mx := hE.2 x hx1
      have my := hE.2 y hy1
      have q1 : w % 4096 = x := by omega
      have q2 : w / 4096 = y := by omega
      have j0 := rk_jn (y := y) mx.1 (j := 0) (by decide)
      have j1 := rk_jn (y := y) mx.1 (j := 1) (by decide)
      have j2 := rk_jn (y := y) mx.1 (j := 2) (by decide)
      rw [← hwe] at j0 j1 j2
      have hc : ctl7 f b X Y w = true ↔ (hld f b X Y 7 (rk w) = true ∧ apt (sam f b X Y) (rk w) (npk 7) = true ∧ ¬ alk f b X Y 1 (rk x) = true ∧ ¬ alk f b X Y 1 (rk y) = true) := by
        unfold ctl7 ctl nol
        rw [q1, q2]
        simp only [Bool.and_eq_true, Bool.not_eq_true', Bool.not_eq_true]
        constructor
        · intro h; exact ⟨h.1.1.1, h.1.1.2, h.1.2, h.2⟩
        · intro h; exact ⟨⟨⟨h.1, h.2.1⟩, h.2.2.1⟩, h.2.2.2⟩
      rw [hc]
      constructor
      · intro h
        have hs := hld_stn h.1
        refine ⟨h.1, fun _ => h.2.1, fun _ => ?_, fun z => absurd z (by decide)⟩
        rw [em_line hs j0.1.symm j1.1.symm j2.1.symm, em_line (x := y) hs j0.2.symm j1.2.symm j2.2.symm]
        exact h.2.2
      · intro h
        have hs := hld_stn h.1
        have h3 := h.2.2.1 rfl
        rw [em_line hs j0.1.symm j1.1.symm j2.1.symm, em_line (x := y) hs j0.2.symm j1.2.symm j2.2.symm] at h3
        exact ⟨h.1, h.2.1 (by decide), h3⟩
    · rw [if_neg h7]
      have hin := en_in n hn k hk h7 w hw
      unfold ctl
      rw [Bool.and_eq_true]
      constructor
      · intro h
        refine ⟨h.1, fun _ => h.2, fun z => absurd z h7, fun z => ?_⟩
        have hs := hld_stn h.1
        have ha := apt_iff.mp h.2
        have h4 : npk k = 4 ∧ rk w 0 < rk w 1 ∧ rk w 2 < rk w 3 := by
          unfold wys at z
          rw [decide_eq_true_iff] at z
          rcases z with z | z | z | z
          · subst z
            have := of_decide_eq_true hord
            exact ⟨rfl, this.1, this.2.1⟩
          · subst z
            have := of_decide_eq_true hord
            exact ⟨rfl, this.1, this.2.1⟩
          · subst z
            have := of_decide_eq_true hord
            exact ⟨rfl, this.1, this.2.1⟩
          · subst z
            have := of_decide_eq_true hord
            exact ⟨rfl, this.1, this.2.1⟩
        refine ⟨fun y => ?_, fun y => ?_⟩
        · have := ha 0 (by omega) 1 (by omega) (em_sam hx (hin 0 (by omega)) (hin 1 (by omega)) hs y)
          omega
        · have := ha 2 (by omega) 3 (by omega) (em_sam hx (hin 2 (by omega)) (hin 3 (by omega)) hs y)
          omega
      · intro h
        exact ⟨h.1, h.2.1 (by omega)⟩
theorem FL_eq {k : Nat} (hn : n < 11) (hk : k < 9) (hx : XR f n b X Y) : FL f n b X Y k = Vz f b X Y k (Ew k n) := by
  unfold FL Vz
  congr 1
  have : (Ew k n).filter (fun w => ord k (rk w) && mtl f b X Y k (rk w)) = ((Ew k n).filter (fun w => ord k (rk w))).filter (fun w => mtl f b X Y k (rk w)) := by
    rw [List.filter_filter]
    congr 1
    funext w
    exact Bool.and_comm _ _
  rw [this, en_all hn hk]
  apply List.filter_congr
  intro w hw
  exact tol_mtl hn hk hx hw
end TOL
