/-! holds -/
theorem nI_any (x : Int32) : x = nI x.toBitVec.toNat := by
  apply Int32.toBitVec_inj.mp
  show x.toBitVec = BitVec.ofNat 32 x.toBitVec.toNat
  rw [BitVec.ofNat_toNat, BitVec.setWidth_eq]
theorem nI_tn {t : Nat} (h : t < 16) : (nI t).toBitVec.toNat = t := pk_tn (by omega)
section HOL
variable {N : Nat} {v : Nat → Nat}
theorem c_two (hv : ∀ j, j < 4 → v j < 16) : t_FF_areTwoPairs N (nI (v 0)) (nI (v 1)) (nI (v 2)) (nI (v 3)) = some (bI (decide (v 0 < v 1 ∧ v 2 < v 3 ∧ (v 0 < v 2 ∨ v 0 = v 2 ∧ v 1 < v 3)))) := by
  unfold t_FF_areTwoPairs
  by_cases h1 : v 1 ≤ v 0
  · refine (if_pos ((le_i (hv 1 (by decide)) (hv 0 (by decide))).mpr h1)).trans ?_
    exact some_f (by omega)
  · refine (if_neg (fun z => h1 ((le_i (hv 1 (by decide)) (hv 0 (by decide))).mp z))).trans ?_
    by_cases h2 : v 3 ≤ v 2
    · refine (if_pos ((le_i (hv 3 (by decide)) (hv 2 (by decide))).mpr h2)).trans ?_
      exact some_f (by omega)
    · refine (if_neg (fun z => h2 ((le_i (hv 3 (by decide)) (hv 2 (by decide))).mp z))).trans ?_
      by_cases h3 : v 0 < v 2
      · refine (if_pos ((lt_i (hv 0 (by decide)) (hv 2 (by decide))).mpr h3)).trans ?_
        exact some_t (by omega)
      · refine (if_neg (fun z => h3 ((lt_i (hv 0 (by decide)) (hv 2 (by decide))).mp z))).trans ?_
        by_cases h4 : v 0 = v 2
        · refine (if_pos ((eq_i (hv 0 (by decide)) (hv 2 (by decide))).mpr h4)).trans ?_
          by_cases h5 : v 3 ≤ v 1
          · refine (if_pos ((le_i (hv 3 (by decide)) (hv 1 (by decide))).mpr h5)).trans ?_
            exact some_f (by omega)
          · refine (if_neg (fun z => h5 ((le_i (hv 3 (by decide)) (hv 1 (by decide))).mp z))).trans ?_
            exact some_t (by omega)
        · refine (if_neg (fun z => h4 ((eq_i (hv 0 (by decide)) (hv 2 (by decide))).mp z))).trans ?_
          exact some_f (by omega)
theorem c_isFact {k : Nat} (hk : k < 9) (hv : ∀ j, j < npk k → v j < 16) : t_FF_isFact N (nI k) (nI (v 0)) (nI (v 1)) (nI (v 2)) (nI (v 3)) (nI (v 4)) (nI (v 5)) = some (bI (ord k v)) := by
  unfold t_FF_isFact
  match k, hk, hv with
  | 0, _, hv =>
    refine (if_pos rfl).trans ?_
    show _ = some (bI (decide (v 0 < v 1)))
    by_cases h1 : v 1 ≤ v 0
    · refine (if_pos ((le_i (hv 1 (by decide)) (hv 0 (by decide))).mpr h1)).trans ?_
      exact some_f (by omega)
    · refine (if_neg (fun z => h1 ((le_i (hv 1 (by decide)) (hv 0 (by decide))).mp z))).trans ?_
      exact some_t (by omega)
  | 1, _, hv =>
    refine (if_neg (by decide)).trans <| (if_pos rfl).trans ?_
    show _ = some (bI (decide (v 0 < v 1 ∧ v 1 < v 2)))
    by_cases h1 : v 1 ≤ v 0
    · refine (if_pos ((le_i (hv 1 (by decide)) (hv 0 (by decide))).mpr h1)).trans ?_
      exact some_f (by omega)
    · refine (if_neg (fun z => h1 ((le_i (hv 1 (by decide)) (hv 0 (by decide))).mp z))).trans ?_
      by_cases h2 : v 2 ≤ v 1
      · refine (if_pos ((le_i (hv 2 (by decide)) (hv 1 (by decide))).mpr h2)).trans ?_
        exact some_f (by omega)
      · refine (if_neg (fun z => h2 ((le_i (hv 2 (by decide)) (hv 1 (by decide))).mp z))).trans ?_
        exact some_t (by omega)
  | 2, _, hv =>
    refine (if_neg (by decide)).trans <| (if_neg (by decide)).trans <| (if_pos rfl).trans ?_
    show _ = some (bI (decide (v 0 < v 1 ∧ v 2 < v 3 ∧ (v 0 < v 2 ∨ v 0 = v 2 ∧ v 1 < v 3) ∧ ¬ (v 0 = v 2 ∨ v 0 = v 3 ∨ v 1 = v 2 ∨ v 1 = v 3))))
    refine bs (c_two hv) ?_
    have ap := p_apartPairs (N := N) (hv 0 (by decide)) (hv 1 (by decide)) (hv 2 (by decide)) (hv 3 (by decide))
    by_cases h1 : v 0 < v 1 ∧ v 2 < v 3 ∧ (v 0 < v 2 ∨ v 0 = v 2 ∧ v 1 < v 3)
    · rw [decide_eq_true h1]
      refine (if_neg (by decide)).trans <| bs ap ?_
      by_cases h2 : v 0 = v 2 ∨ v 0 = v 3 ∨ v 1 = v 2 ∨ v 1 = v 3
      · rw [decide_eq_false (fun z => z h2)]
        exact (if_pos (by decide)).trans (some_f (fun z => z.2.2.2 h2))
      · rw [decide_eq_true h2]
        exact (if_neg (by decide)).trans (some_t ⟨h1.1, h1.2.1, h1.2.2, h2⟩)
    · rw [decide_eq_false h1]
      exact (if_pos (by decide)).trans (some_f (fun z => h1 ⟨z.1, z.2.1, z.2.2.1⟩))
  | 3, _, hv =>
    refine (if_neg (by decide)).trans <| (if_neg (by decide)).trans <| (if_neg (by decide)).trans <| (if_pos rfl).trans ?_
    show _ = some (bI (decide (v 0 < v 1 ∧ v 2 < v 3 ∧ (v 0 < v 2 ∨ v 0 = v 2 ∧ v 1 < v 3))))
    exact bs (c_two hv) <| bs (bI_tz _) rfl
  | 4, _, hv =>
    refine (if_neg (by decide)).trans <| (if_neg (by decide)).trans <| (if_neg (by decide)).trans <| (if_neg (by decide)).trans <| (if_pos rfl).trans ?_
    show _ = some (bI (decide (v 0 < v 1 ∧ v 2 < v 3 ∧ (v 0 < v 2 ∨ v 0 = v 2 ∧ v 1 < v 3))))
    exact bs (c_two hv) <| bs (bI_tz _) rfl
  | 5, _, hv =>
    refine (if_neg (by decide)).trans <| (if_neg (by decide)).trans <| (if_neg (by decide)).trans <| (if_neg (by decide)).trans <| (if_neg (by decide)).trans <| (if_pos rfl).trans ?_
    show _ = some (bI (decide (v 0 < v 1 ∧ v 1 < v 2 ∧ v 2 < v 3)))
    by_cases h1 : v 1 ≤ v 0
    · refine (if_pos ((le_i (hv 1 (by decide)) (hv 0 (by decide))).mpr h1)).trans ?_
      exact some_f (by omega)
    · refine (if_neg (fun z => h1 ((le_i (hv 1 (by decide)) (hv 0 (by decide))).mp z))).trans ?_
      by_cases h2 : v 2 ≤ v 1
      · refine (if_pos ((le_i (hv 2 (by decide)) (hv 1 (by decide))).mpr h2)).trans ?_
        exact some_f (by omega)
      · refine (if_neg (fun z => h2 ((le_i (hv 2 (by decide)) (hv 1 (by decide))).mp z))).trans ?_
        by_cases h3 : v 3 ≤ v 2
        · refine (if_pos ((le_i (hv 3 (by decide)) (hv 2 (by decide))).mpr h3)).trans ?_
          exact some_f (by omega)
        · refine (if_neg (fun z => h3 ((le_i (hv 3 (by decide)) (hv 2 (by decide))).mp z))).trans ?_
          exact some_t (by omega)
  | 6, _, hv =>
    refine (if_neg (by decide)).trans <| (if_neg (by decide)).trans <| (if_neg (by decide)).trans <| (if_neg (by decide)).trans <| (if_neg (by decide)).trans <| (if_neg (by decide)).trans <| (if_pos rfl).trans ?_
    show _ = some (bI (decide (v 1 < v 2 ∧ v 0 ≠ v 1 ∧ v 0 ≠ v 2)))
    by_cases h1 : v 2 ≤ v 1
    · refine (if_pos ((le_i (hv 2 (by decide)) (hv 1 (by decide))).mpr h1)).trans ?_
      exact some_f (by omega)
    · refine (if_neg (fun z => h1 ((le_i (hv 2 (by decide)) (hv 1 (by decide))).mp z))).trans ?_
      by_cases h2 : v 0 = v 1
      · refine (if_pos ((eq_i (hv 0 (by decide)) (hv 1 (by decide))).mpr h2)).trans ?_
        exact some_f (by omega)
      · refine (if_neg (fun z => h2 ((eq_i (hv 0 (by decide)) (hv 1 (by decide))).mp z))).trans ?_
        by_cases h3 : v 0 = v 2
        · refine (if_pos ((eq_i (hv 0 (by decide)) (hv 2 (by decide))).mpr h3)).trans ?_
          exact some_f (by omega)
        · refine (if_neg (fun z => h3 ((eq_i (hv 0 (by decide)) (hv 2 (by decide))).mp z))).trans ?_
          exact some_t (by omega)
  | 7, _, hv =>
    refine (if_neg (by decide)).trans <| (if_neg (by decide)).trans <| (if_neg (by decide)).trans <| (if_neg (by decide)).trans <| (if_neg (by decide)).trans <| (if_neg (by decide)).trans <| (if_neg (by decide)).trans <| (if_pos rfl).trans ?_
    show _ = some (bI (decide (v 0 < v 1 ∧ v 1 < v 2 ∧ v 3 < v 4 ∧ v 4 < v 5 ∧ (v 0 < v 3 ∨ v 0 = v 3 ∧ (v 1 < v 4 ∨ v 1 = v 4 ∧ v 2 < v 5)))))
    by_cases h1 : v 1 ≤ v 0
    · refine (if_pos ((le_i (hv 1 (by decide)) (hv 0 (by decide))).mpr h1)).trans ?_
      exact some_f (by omega)
    · refine (if_neg (fun z => h1 ((le_i (hv 1 (by decide)) (hv 0 (by decide))).mp z))).trans ?_
      by_cases h2 : v 2 ≤ v 1
      · refine (if_pos ((le_i (hv 2 (by decide)) (hv 1 (by decide))).mpr h2)).trans ?_
        exact some_f (by omega)
      · refine (if_neg (fun z => h2 ((le_i (hv 2 (by decide)) (hv 1 (by decide))).mp z))).trans ?_
        by_cases h3 : v 4 ≤ v 3
        · refine (if_pos ((le_i (hv 4 (by decide)) (hv 3 (by decide))).mpr h3)).trans ?_
          exact some_f (by omega)
        · refine (if_neg (fun z => h3 ((le_i (hv 4 (by decide)) (hv 3 (by decide))).mp z))).trans ?_
          by_cases h4 : v 5 ≤ v 4
          · refine (if_pos ((le_i (hv 5 (by decide)) (hv 4 (by decide))).mpr h4)).trans ?_
            exact some_f (by omega)
          · refine (if_neg (fun z => h4 ((le_i (hv 5 (by decide)) (hv 4 (by decide))).mp z))).trans ?_
            by_cases h5 : v 0 < v 3
            · refine (if_pos ((lt_i (hv 0 (by decide)) (hv 3 (by decide))).mpr h5)).trans ?_
              exact some_t (by omega)
            · refine (if_neg (fun z => h5 ((lt_i (hv 0 (by decide)) (hv 3 (by decide))).mp z))).trans ?_
              by_cases h6 : v 0 = v 3
              · refine (if_pos ((eq_i (hv 0 (by decide)) (hv 3 (by decide))).mpr h6)).trans ?_
                by_cases h7 : v 1 < v 4
                · refine (if_pos ((lt_i (hv 1 (by decide)) (hv 4 (by decide))).mpr h7)).trans ?_
                  exact some_t (by omega)
                · refine (if_neg (fun z => h7 ((lt_i (hv 1 (by decide)) (hv 4 (by decide))).mp z))).trans ?_
                  by_cases h8 : v 1 = v 4
                  · refine (if_pos ((eq_i (hv 1 (by decide)) (hv 4 (by decide))).mpr h8)).trans ?_
                    by_cases h9 : v 5 ≤ v 2
                    · refine (if_pos ((le_i (hv 5 (by decide)) (hv 2 (by decide))).mpr h9)).trans ?_
                      exact some_f (by omega)
                    · refine (if_neg (fun z => h9 ((le_i (hv 5 (by decide)) (hv 2 (by decide))).mp z))).trans ?_
                      exact some_t (by omega)
                  · refine (if_neg (fun z => h8 ((eq_i (hv 1 (by decide)) (hv 4 (by decide))).mp z))).trans ?_
                    exact some_f (by omega)
              · refine (if_neg (fun z => h6 ((eq_i (hv 0 (by decide)) (hv 3 (by decide))).mp z))).trans ?_
                exact some_f (by omega)
  | 8, _, hv =>
    refine (if_neg (by decide)).trans <| (if_neg (by decide)).trans <| (if_neg (by decide)).trans <| (if_neg (by decide)).trans <| (if_neg (by decide)).trans <| (if_neg (by decide)).trans <| (if_neg (by decide)).trans <| (if_neg (by decide)).trans <| (if_pos rfl).trans ?_
    show _ = some (bI (decide (v 0 < v 1 ∧ v 2 < v 3 ∧ (v 0 < v 2 ∨ v 0 = v 2 ∧ v 1 < v 3))))
    exact bs (c_two hv) <| bs (bI_tz _) rfl
  | k + 9, hk, _ => exact absurd hk (by omega)
theorem sho_cg {X Y : Nat → Int} {k m n : Nat} {v w : Nat → Nat} (hk : k < 9) (h : ∀ j, j < npk k → v j = w j) : sho X Y k v m n = sho X Y k w m n := by
  match k, hk, h with
  | 0, _, h => show decide _ = decide _; rw [h 0 (by decide), h 1 (by decide)]
  | 1, _, h => show decide _ = decide _; rw [h 0 (by decide), h 1 (by decide), h 2 (by decide)]
  | 2, _, h => show decide _ = decide _; rw [h 0 (by decide), h 1 (by decide), h 2 (by decide), h 3 (by decide)]
  | 3, _, h => show decide _ = decide _; rw [h 0 (by decide), h 1 (by decide), h 2 (by decide), h 3 (by decide)]
  | 4, _, h => show decide _ = decide _; rw [h 0 (by decide), h 1 (by decide), h 2 (by decide), h 3 (by decide)]
  | 5, _, h => show decide _ = decide _; rw [h 0 (by decide), h 1 (by decide), h 2 (by decide), h 3 (by decide)]
  | 6, _, h => show decide _ = decide _; rw [h 0 (by decide), h 1 (by decide), h 2 (by decide)]
  | 7, _, h => show decide _ = decide _; rw [h 0 (by decide), h 1 (by decide), h 2 (by decide), h 3 (by decide), h 4 (by decide), h 5 (by decide)]
  | 8, _, h => show decide _ = decide _; rw [h 0 (by decide), h 1 (by decide), h 2 (by decide), h 3 (by decide)]
  | k + 9, hk, _ => exact absurd hk (by omega)
theorem hld_cg {f : Nat} {b : Nat → Bool} {X Y : Nat → Nat → Int} {k : Nat} {v w : Nat → Nat} (hk : k < 9) (h : ∀ j, j < npk k → v j = w j) : hld f b X Y k v = hld f b X Y k w := by
  unfold hld
  by_cases h8 : k < 8
  · rw [if_pos h8, if_pos h8]
    unfold alk
    have : (fun g => sho (X g) (Y g) k v 0 0) = fun g => sho (X g) (Y g) k w 0 0 := funext fun g => sho_cg hk h
    rw [this]
  · rw [if_neg h8, if_neg h8]
    have hk8 : k = 8 := by omega
    subst hk8
    have : rtQ f b X Y v = rtQ f b X Y w := by
      funext m n
      unfold rtQ
      have : (fun g => sho (X g) (Y g) 8 v m n) = fun g => sho (X g) (Y g) 8 w m n := funext fun g => sho_cg (by decide) h
      rw [this]
    rw [this]
/-- the points of a fact are there -/
def tha (d n : Nat) (a0 a1 a2 a3 a4 a5 : Int32) : Bool := decide (inb a0 n = true ∧ inb a1 n = true ∧ (2 < d → inb a2 n = true) ∧ (3 < d → inb a3 n = true) ∧ (4 < d → inb a4 n = true) ∧ (5 < d → inb a5 n = true))
variable {S : CS} {M : MS} {n d : Nat} {a0 a1 a2 a3 a4 a5 : Int32}
theorem th_ck {x : Int32} {y z : Option Int32} (hp : cs_psize S = nI n) (h : inb x n = true → y = z) (h0 : ¬ inb x n = true → some (0 : Int32) = z) : ((t_FF_isThere N x S).bind fun r2 => if r2 = 0 then some 0 else y) = z := by
  refine bs (c_isThere hp) ?_
  by_cases hb : inb x n = true
  · exact (if_neg (fun q => bI_0.mp q hb)).trans (h hb)
  · exact (if_pos (bI_0.mpr hb)).trans (h0 hb)
theorem c_th6 (hp : cs_psize S = nI n) (hd : d ≤ 6) : tb_FF_areThere_58 N (nI d) a5 S = some (bI (decide (5 < d → inb a5 n = true))) := by
  unfold tb_FF_areThere_58
  by_cases h : d < 6
  · exact (if_pos (nI_lt (b := 6) h (by decide))).trans (some_t (fun z => by omega))
  · exact (if_neg (nI_nlt (b := 6) (by omega) (by omega))).trans (th_ck hp (fun z => some_t (fun _ => z)) (fun z => some_f (fun y => z (y (by omega)))))
theorem c_th5 (hp : cs_psize S = nI n) (hd : d ≤ 6) : tb_FF_areThere_44 N (nI d) a4 a5 S = some (bI (decide ((4 < d → inb a4 n = true) ∧ (5 < d → inb a5 n = true)))) := by
  unfold tb_FF_areThere_44
  have h4 := c_th6 (N := N) (a5 := a5) hp hd
  by_cases h : d < 5
  · refine (if_pos (nI_lt (b := 5) h (by decide))).trans (h4.trans ?_)
    congr 2
    exact decide_eq_decide.mpr ⟨fun z => ⟨fun y => by omega, z⟩, fun z => z.2⟩
  · refine (if_neg (nI_nlt (b := 5) (by omega) (by omega))).trans (th_ck hp (fun z => h4.trans ?_) (fun z => some_f (fun y => z (y.1 (by omega)))))
    congr 2
    exact decide_eq_decide.mpr ⟨fun y => ⟨fun _ => z, y⟩, fun y => y.2⟩
theorem c_th4 (hp : cs_psize S = nI n) (hd : d ≤ 6) : tb_FF_areThere_30 N (nI d) a3 a4 a5 S = some (bI (decide ((3 < d → inb a3 n = true) ∧ (4 < d → inb a4 n = true) ∧ (5 < d → inb a5 n = true)))) := by
  unfold tb_FF_areThere_30
  have h4 := c_th5 (N := N) (a4 := a4) (a5 := a5) hp hd
  by_cases h : d < 4
  · refine (if_pos (nI_lt (b := 4) h (by decide))).trans (h4.trans ?_)
    congr 2
    exact decide_eq_decide.mpr ⟨fun z => ⟨fun y => by omega, z⟩, fun z => z.2⟩
  · refine (if_neg (nI_nlt (b := 4) (by omega) (by omega))).trans (th_ck hp (fun z => h4.trans ?_) (fun z => some_f (fun y => z (y.1 (by omega)))))
    congr 2
    exact decide_eq_decide.mpr ⟨fun y => ⟨fun _ => z, y⟩, fun y => y.2⟩
theorem c_areThere (hp : cs_psize S = nI n) (hd : d ≤ 6) : t_FF_areThere N (nI d) a0 a1 a2 a3 a4 a5 S = some (bI (tha d n a0 a1 a2 a3 a4 a5)) := by
  unfold t_FF_areThere tha
  have h4 := c_th4 (N := N) (a3 := a3) (a4 := a4) (a5 := a5) hp hd
  refine th_ck hp (fun z0 => th_ck hp (fun z1 => ?_) (fun z => some_f (fun y => z y.2.1))) (fun z => some_f (fun y => z y.1))
  by_cases h : d < 3
  · refine (if_pos (nI_lt (b := 3) h (by decide))).trans (h4.trans ?_)
    congr 2
    exact decide_eq_decide.mpr ⟨fun z => ⟨z0, z1, fun y => by omega, z⟩, fun z => z.2.2.2⟩
  · refine (if_neg (nI_nlt (b := 3) (by omega) (by omega))).trans (th_ck hp (fun z => h4.trans ?_) (fun z => some_f (fun y => z (y.2.2.1 (by omega)))))
    congr 2
    exact decide_eq_decide.mpr ⟨fun y => ⟨z0, z1, fun _ => z, y⟩, fun y => y.2.2.2⟩
theorem call_holds {x : Int32} (hN : 2000 ≤ N) (h : STT S M) : CALL (t_FF_holds N x a0 a1 a2 a3 a4 a5 S) (t_Mo_holds N x a0 a1 a2 a3 a4 a5 M) := by
  obtain ⟨n, s, f, kd, sr, hC, hM⟩ := h
  have hP := hC.2.2.2.2.1
  have hn := hP.2.1
  have hf := hC.2.1.2
  have hmd := hM.md hf
  unfold t_FF_holds t_Mo_holds
  cases hx : inb x 9 with
  | false => exact ⟨-2, S, M, bs (x := bI false) (by rw [c_isFactKind, hx]) (if_pos rfl), bs (x := bI false) (by rw [isIn8, hx]) (if_pos rfl), n, s, f, kd, sr, hC, hM⟩
  | true =>
    obtain ⟨k, hk, rfl⟩ := (inb_iff (by decide)).mp hx
    have b1 : t_FF_isFactKind N (nI k) = some (bI true) := by rw [c_isFactKind, hx]
    have b2 : t_Mo_isIn N (nI k) 0 8 = some (bI true) := by rw [isIn8, hx]
    have hd := npk_le k hk
    have hd2 : 2 ≤ npk k := by
      match k, hk with
      | 0, _ => decide
      | 1, _ => decide
      | 2, _ => decide
      | 3, _ => decide
      | 4, _ => decide
      | 5, _ => decide
      | 6, _ => decide
      | 7, _ => decide
      | 8, _ => decide
      | k + 9, h => exact absurd h (by omega)
    have ft : ft_i 9 tb_2 (nI k) = some (nI (npk k)) := (ft_n hk (by decide)).trans (congrArg some (tb2_n k hk))
    have et := c_areThere (N := N) (a0 := a0) (a1 := a1) (a2 := a2) (a3 := a3) (a4 := a4) (a5 := a5) hP.1 hd
    obtain ⟨R, eR, r0, r1, r2, r3, r4, r5⟩ := m_setRow (N := N) (M := M) a0 a1 a2 a3 a4 a5
    have kR : KM [13] M (ms_set_row M R) := KM.s_row
    have hMR := hM.km kR (by decide)
    have hin : ∀ j, j < 6 → ta 6 (ms_row (ms_set_row M R)) (nI j) = some (R j) := fun j hj => by rw [ms_g_row_row, ta_n hj (by decide)]
    have hmR : ms_many (ms_set_row M R) = nI n := hMR.2.2.1.1
    have hloop := up_loop (σ := Bool) (L := fun fu j q => tl_Mo_holds_33 N fu (nI k) (bI q) (nI j) (ms_set_row M R)) (e := npk k) (I := fun j q => q = true ↔ ∀ i, i < j → inb (R i) n = true) (Q := fun o => ∃ q : Bool, (q = true ↔ ∀ i, i < npk k → inb (R i) n = true) ∧ o = (if bI q = 0 then (some ((-2), ms_set_row M R)) else ((t_Mo_isOrdered N (nI k) (ms_set_row M R)).bind fun r3 => if r3 = 0 then (some ((-2), ms_set_row M R)) else ((t_Mo_isHeld N (nI k) (ms_set_row M R)).bind fun r5 => if r5.1 = 0 then (some (0, r5.2)) else (some (1, r5.2)))))) (by
      intro fu j q hj hI
      refine Or.inl ?_
      have nx : some (nI j + 1) = some (nI (j + 1)) := by rw [nI_1]
      have hle : ¬ nI (npk k) ≤ nI j := nI_ge hj (by omega)
      show ∃ s', tb_Mo_holds_33 N (tl_Mo_holds_33 N fu) (nI k) (bI q) (nI j) (ms_set_row M R) = _ ∧ _
      unfold tb_Mo_holds_33 tb_Mo_holds_65 tb_Mo_holds_66
      by_cases hq : q = true
      · have hpt := m_isPoint (N := N) (x := R j) hmR hn
        by_cases hb : inb (R j) n = true
        · refine ⟨true, bs (m_size hk) <| (if_neg hle).trans <| (if_neg (fun z => bI_0.mp z hq)).trans <| bs (hin j (by omega)) <| bs hpt <| (if_neg (fun z => bI_0.mp z hb)).trans <| bs nx rfl, fun _ i hi => ?_, fun _ => rfl⟩
          by_cases hij : i = j
          · rw [hij]; exact hb
          · exact hI.mp hq i (by omega)
        · refine ⟨false, bs (m_size hk) <| (if_neg hle).trans <| (if_neg (fun z => bI_0.mp z hq)).trans <| bs (hin j (by omega)) <| bs hpt <| (if_pos (bI_0.mpr hb)).trans <| bs nx rfl, fun z => (by cases z), fun z => absurd (z j (by omega)) hb⟩
      · refine ⟨false, bs (m_size hk) <| (if_neg hle).trans <| (if_pos (bI_0.mpr hq)).trans <| bs nx rfl, fun z => (by cases z), fun z => absurd (hI.mpr (fun i hi => z i (by omega))) hq⟩) (by
      intro fu q hI
      refine ⟨q, hI, ?_⟩
      show tb_Mo_holds_33 N (tl_Mo_holds_33 N fu) (nI k) (bI q) (nI (npk k)) (ms_set_row M R) = _
      unfold tb_Mo_holds_33
      exact bs (m_size hk) (if_pos (nI_le (Nat.le_refl _) (by omega))))
    obtain ⟨q, hq, eq⟩ := hloop (npk k) 0 N true (by omega) (by omega) ⟨fun _ i hi => by omega, fun _ => rfl⟩
    have eq' : tl_Mo_holds_33 N N (nI k) 1 0 (ms_set_row M R) = _ := eq
    have hqt : q = tha (npk k) n a0 a1 a2 a3 a4 a5 := by
      apply bool_ext
      rw [hq]
      unfold tha
      rw [decide_eq_true_iff, ← r0, ← r1, ← r2, ← r3, ← r4, ← r5]
      constructor
      · intro h
        exact ⟨h 0 (by omega), h 1 (by omega), fun z => h 2 z, fun z => h 3 z, fun z => h 4 z, fun z => h 5 z⟩
      · intro h i hi
        match i, hi with
        | 0, _ => exact h.1
        | 1, _ => exact h.2.1
        | 2, hi => exact h.2.2.1 hi
        | 3, hi => exact h.2.2.2.1 hi
        | 4, hi => exact h.2.2.2.2.1 hi
        | 5, hi => exact h.2.2.2.2.2 hi
        | i + 6, hi => omega
    rw [← hqt] at et
    cases hqv : q with
    | false =>
      rw [hqv] at et eq'
      exact ⟨-2, S, _, bs b1 <| (if_neg (by decide)).trans <| bs ft <| bs et (if_pos rfl), bs b2 <| (if_neg (by decide)).trans <| bs eR <| eq'.trans (if_pos rfl), n, s, f, kd, sr, hC, hMR⟩
    | true =>
      rw [hqv] at et eq'
      have hall := hq.mp hqv
      obtain ⟨v, hve⟩ : ∃ v : Nat → Nat, v = fun j => (R j).toBitVec.toNat := ⟨_, rfl⟩
      have hRv : ∀ j, R j = nI (v j) := fun j => by rw [hve]; exact nI_any (R j)
      have hvn : ∀ j, j < npk k → v j < n := fun j hj => by
        obtain ⟨t, ht, e⟩ := (inb_iff (by omega)).mp (hall j hj)
        rw [hve]
        show (R j).toBitVec.toNat < n
        rw [e, nI_tn (by omega)]
        exact ht
      have g0 : a0 = nI (v 0) := r0.symm.trans (hRv 0)
      have g1 : a1 = nI (v 1) := r1.symm.trans (hRv 1)
      have g2 : a2 = nI (v 2) := r2.symm.trans (hRv 2)
      have g3 : a3 = nI (v 3) := r3.symm.trans (hRv 3)
      have g4 : a4 = nI (v 4) := r4.symm.trans (hRv 4)
      have g5 : a5 = nI (v 5) := r5.symm.trans (hRv 5)
      have ef := c_isFact (N := N) (v := v) hk (fun j hj => by have := hvn j hj; omega)
      rw [← g0, ← g1, ← g2, ← g3, ← g4, ← g5] at ef
      have eo := m_ordered (N := N) (M := ms_set_row M R) (v := v) hk (fun j hj => by rw [ms_g_row_row]; exact hRv j) (fun j hj => by have := hvn j hj; omega)
      cases ho : ord k v with
      | false =>
        rw [ho] at ef eo
        exact ⟨-2, S, _, bs b1 <| (if_neg (by decide)).trans <| bs ft <| bs et <| (if_neg (by decide)).trans <| bs ef (if_pos rfl), bs b2 <| (if_neg (by decide)).trans <| bs eR <| eq'.trans <| (if_neg (by decide)).trans <| bs eo (if_pos rfl), n, s, f, kd, sr, hC, hMR⟩
      | true =>
        rw [ho] at ef eo
        obtain ⟨M2, e2, k2, -⟩ := m_isHeld (N := N) (M := ms_set_row M R) (v := v) (by omega) (hMR.md hf) hk (fun j hj => by rw [ms_g_row_row]; exact hRv j) hvn
        have hM2 := hMR.km k2 (by decide)
        have fin : ∀ w, w < 2147483648 → (∀ j, j < npk k → rk w j = v j) → ∃ S2, tb_FF_holds_117 N (nI k) (nI w) S = some (bI (hld f (bb kd sr s n) (xx kd sr s n) (yy kd sr s n) k v), S2) ∧ CInv S2 n s f kd sr := by
          intro w hw hj
          obtain ⟨S2, e, kc, dv⟩ := p_bears (N := N) (S := S) (i := 0) (k := k) (w := w) (by omega) (by decide) hC.cd hC.2.2.2.2.2.2.2.1 hk hw (fun j hj2 => by rw [hj j hj2]; exact hvn j hj2)
          rw [hld_cg hk hj] at e
          refine ⟨S2, ?_, hC.kc (kc.mo (by decide)) (KI.dv hC.2.2.2.2.2.2 kc dv)⟩
          refine bs e ?_
          cases hld f (bb kd sr s n) (xx kd sr s n) (yy kd sr s n) k v with
          | false => exact if_pos rfl
          | true => exact if_neg (show ¬ bI true = 0 by decide)
        have hcls : ∃ S2, (if nI (npk k) ≤ 2 then (tb_FF_holds_70 N (nI k) a3 a4 a5 (nI (npk k)) a0 a1 0 S) else (tb_FF_holds_70 N (nI k) a3 a4 a5 (nI (npk k)) a0 a1 a2 S)) = some (bI (hld f (bb kd sr s n) (xx kd sr s n) (yy kd sr s n) k v), S2) ∧ CInv S2 n s f kd sr := by
          have p0 := hvn 0 (by omega)
          have p1 := hvn 1 (by omega)
          have hnp : npk k = 2 ∨ npk k = 3 ∨ npk k = 4 ∨ npk k = 6 := by
            match k, hk with
            | 0, _ => decide
            | 1, _ => decide
            | 2, _ => decide
            | 3, _ => decide
            | 4, _ => decide
            | 5, _ => decide
            | 6, _ => decide
            | 7, _ => decide
            | 8, _ => decide
            | k + 9, h => exact absurd h (by omega)
          unfold tb_FF_holds_70 tb_FF_holds_97 tb_FF_holds_109
          rw [g0, g1, g2, g3, g4, g5]
          rcases hnp with hz | hz | hz | hz
          · rw [hz] at fin ⊢
            obtain ⟨S2, e, I⟩ := fin (w6 (v 0) (v 1) 0 0 0 0) (by have := w6_lt (a := v 0) (b := v 1) (c := 0) (d := 0) (e := 0) (f := 0) (by omega) (by omega) (by omega) (by omega) (by omega) (by omega); omega) (fun j hj => by
              match j, hj with
              | 0, _ => exact rk_0 (by omega)
              | 1, _ => exact rk_1 (by omega) (by omega)
              | j + 2, h => omega)
            exact ⟨S2, (if_pos (by decide)).trans <| bs (p_pack (c := 0) (by omega) (by omega) (by omega)) <| (if_pos (by decide)).trans e, I⟩
          · have p2 := hvn 2 (by omega)
            rw [hz] at fin ⊢
            obtain ⟨S2, e, I⟩ := fin (w6 (v 0) (v 1) (v 2) 0 0 0) (by have := w6_lt (a := v 0) (b := v 1) (c := v 2) (d := 0) (e := 0) (f := 0) (by omega) (by omega) (by omega) (by omega) (by omega) (by omega); omega) (fun j hj => by
              match j, hj with
              | 0, _ => exact rk_0 (by omega)
              | 1, _ => exact rk_1 (by omega) (by omega)
              | 2, _ => exact rk_2 (by omega) (by omega) (by omega)
              | j + 3, h => omega)
            exact ⟨S2, (if_neg (by decide)).trans <| bs (p_pack (by omega) (by omega) (by omega)) <| (if_pos (by decide)).trans e, I⟩
          · have p2 := hvn 2 (by omega)
            have p3 := hvn 3 (by omega)
            rw [hz] at fin ⊢
            obtain ⟨S2, e, I⟩ := fin (w6 (v 0) (v 1) (v 2) (v 3) 0 0) (by have := w6_lt (a := v 0) (b := v 1) (c := v 2) (d := v 3) (e := 0) (f := 0) (by omega) (by omega) (by omega) (by omega) (by omega) (by omega); omega) (fun j hj => by
              match j, hj with
              | 0, _ => exact rk_0 (by omega)
              | 1, _ => exact rk_1 (by omega) (by omega)
              | 2, _ => exact rk_2 (by omega) (by omega) (by omega)
              | 3, _ => exact rk_3 (by omega) (by omega) (by omega) (by omega)
              | j + 4, h => omega)
            have ew : w6 (v 3) 0 0 0 0 0 = v 3 := by unfold w6; omega
            have ej := p_four (N := N) (a := v 0) (b := v 1) (c := v 2) (d := v 3) (by omega) (by omega) (by omega) (by omega)
            exact ⟨S2, (if_neg (by decide)).trans <| bs (p_pack (by omega) (by omega) (by omega)) <| (if_neg (by decide)).trans <| (if_pos (by decide)).trans <| (if_pos (by decide)).trans <| bs ((p_pack (b := 0) (c := 0) (by omega) (by omega) (by omega)).trans (by rw [ew])) <| bs ej e, I⟩
          · have p2 := hvn 2 (by omega)
            have p3 := hvn 3 (by omega)
            have p4 := hvn 4 (by omega)
            have p5 := hvn 5 (by omega)
            rw [hz] at fin ⊢
            obtain ⟨S2, e, I⟩ := fin (w6 (v 0) (v 1) (v 2) (v 3) (v 4) (v 5)) (by have := w6_lt (a := v 0) (b := v 1) (c := v 2) (d := v 3) (e := v 4) (f := v 5) (by omega) (by omega) (by omega) (by omega) (by omega) (by omega); omega) (fun j hj => by
              match j, hj with
              | 0, _ => exact rk_0 (by omega)
              | 1, _ => exact rk_1 (by omega) (by omega)
              | 2, _ => exact rk_2 (by omega) (by omega) (by omega)
              | 3, _ => exact rk_3 (by omega) (by omega) (by omega) (by omega)
              | 4, _ => exact rk_4 (by omega) (by omega) (by omega) (by omega) (by omega)
              | 5, _ => exact rk_5 (by omega) (by omega) (by omega) (by omega) (by omega) (by omega)
              | j + 6, h => omega)
            have ej := p_join (N := N) (x := w6 (v 0) (v 1) (v 2) 0 0 0) (y := w6 (v 3) (v 4) (v 5) 0 0 0) (by unfold w6; omega) (by unfold w6; omega)
            have ew : w6 (v 0) (v 1) (v 2) 0 0 0 + w6 (v 3) (v 4) (v 5) 0 0 0 * 4096 = w6 (v 0) (v 1) (v 2) (v 3) (v 4) (v 5) := by unfold w6; omega
            rw [ew] at ej
            exact ⟨S2, (if_neg (by decide)).trans <| bs (p_pack (by omega) (by omega) (by omega)) <| (if_neg (by decide)).trans <| (if_neg (by decide)).trans <| (if_neg (by decide)).trans <| bs (p_pack (by omega) (by omega) (by omega)) <| bs ej e, I⟩
        obtain ⟨S2, e1, I1⟩ := hcls
        refine ⟨bI (hld f (bb kd sr s n) (xx kd sr s n) (yy kd sr s n) k v), S2, M2, bs b1 <| (if_neg (by decide)).trans <| bs ft <| bs et <| (if_neg (by decide)).trans <| bs ef <| (if_neg (by decide)).trans <| bs ft e1, bs b2 <| (if_neg (by decide)).trans <| bs eR <| eq'.trans <| (if_neg (by decide)).trans <| bs eo <| (if_neg (by decide)).trans <| bs e2 ?_, n, s, f, kd, sr, I1, hM2⟩
        cases hld f (bb kd sr s n) (xx kd sr s n) (yy kd sr s n) k v with
        | false => exact if_pos rfl
        | true => exact if_neg (show ¬ bI true = 0 by decide)
end HOL
