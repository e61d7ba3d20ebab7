/-! the class's loop over the points: the run goes on -/
def frI (kd sr : Nat → Nat) : Nat → Nat → FS → FS
  | _, 0, F => F
  | p, m + 1, F => frI kd sr (p + 1) m (frS kd sr p F)
theorem frS_fallen {kd sr : Nat → Nat} {p q : Nat} {F : FS} (h : F.2.2.2 = some q) : frS kd sr p F = F := by
  unfold frS
  rw [h]
theorem frI_fallen {kd sr : Nat → Nat} {q : Nat} {F : FS} (h : F.2.2.2 = some q) : ∀ (m p : Nat), frI kd sr p m F = F := by
  intro m
  induction m with
  | zero => intro p; rfl
  | succ m ih =>
    intro p
    show frI kd sr (p + 1) m (frS kd sr p F) = F
    rw [frS_fallen h]
    exact ih (p + 1)
theorem FRep.any {S : CS} {i p n q : Nat} {F : FS} (h : FRep S i p F) (hf : F.2.2.2 = some q) : FRep S i n F := by
  unfold FRep at h ⊢
  rw [hf] at h ⊢
  exact h
theorem sok_0 (n a b c d : Nat) : sok n 0 a b c d := ⟨fun h => absurd h (by decide), fun h => absurd h (by decide), fun h => absurd h (by decide), fun h => absurd h (by decide)⟩
theorem nI_m1 {q : Nat} (h : q < 10) : ¬ nI q = -1 := by
  intro e
  have h1 := nI_toInt (n := q) (by omega)
  rw [e] at h1
  have h2 : (-1 : Int32).toInt = -1 := by decide
  omega
theorem g_loop {N : Nat} {i n : Nat} {kd sr : Nat → Nat} {fq : Nat → Bool} {v2 : Int32} (hN : 25 ≤ N) (hfr : ∀ p, p < n → (nI p = v2 ↔ fq p = true)) : ∀ (m p fuel : Nat) (S : CS) (F : FS), p + m = n → m < fuel → PR S n kd sr → FRep S i p F →
    ∃ S', tl_Fi_goOn_5 N i fuel (some 0) v2 (nI p) S = some S' ∧ CEx S S' i ∧ FRep S' i n (frI (fun j => if fq j = true then 0 else kd j) sr p m F) := by
  intro m
  induction m with
  | zero =>
    intro p fuel S F hpm hfu hP hR
    obtain ⟨f, rfl⟩ : ∃ f, fuel = f + 1 := ⟨fuel - 1, by omega⟩
    have hpn : p = n := by omega
    subst hpn
    refine ⟨S, ?_, CEx.rf, hR⟩
    show tb_Fi_goOn_5 N (tl_Fi_goOn_5 N i f) i (some 0) v2 (nI p) S = some S
    unfold tb_Fi_goOn_5
    exact bs (x := 0) rfl (bs rfl (if_pos (by rw [hP.1]; exact nI_le (Nat.le_refl p) (by have := hP.2.1; omega))))
  | succ m ih =>
    intro p fuel S F hpm hfu hP hR
    obtain ⟨f, rfl⟩ : ∃ f, fuel = f + 1 := ⟨fuel - 1, by omega⟩
    have hpn : p < n := by omega
    have hn10 := hP.2.1
    have hle : ¬ cs_psize S ≤ nI p := by rw [hP.1]; exact nI_ge hpn (by omega)
    show ∃ S', tb_Fi_goOn_5 N (tl_Fi_goOn_5 N i f) i (some 0) v2 (nI p) S = some S' ∧ _
    unfold tb_Fi_goOn_5
    cases hF : F.2.2.2 with
    | some q =>
      refine ⟨S, ?_, CEx.rf, ?_⟩
      · have hR2 := hR
        unfold FRep at hR2
        rw [hF] at hR2
        obtain ⟨-, -, -, hfa, hq10, -⟩ := hR2
        exact bs (x := 0) rfl (bs rfl ((if_neg hle).trans (bs rfl (if_neg (by rw [hfa]; exact nI_m1 hq10)))))
      · rw [frI_fallen hF]
        exact hR.any hF
    | none =>
      have hR2 := hR
      unfold FRep at hR2
      rw [hF] at hR2
      obtain ⟨hs, h01, hm, hfa, hc⟩ := hR2
      have hpl := hP.2.2 p hpn
      obtain ⟨k, hke, hk, hok⟩ : ∃ k, (if fq p = true then 0 else kd p) = k ∧ k < 14 ∧ sok p k (sr (4 * p)) (sr (4 * p + 1)) (sr (4 * p + 2)) (sr (4 * p + 3)) := by
        by_cases hq : fq p = true
        · exact ⟨0, if_pos hq, by decide, sok_0 _ _ _ _ _⟩
        · exact ⟨kd p, if_neg hq, hpl.2.1, hpl.2.2.1⟩
      obtain ⟨S1, e1, x1, R1⟩ := g_36 (N := N) (v2 := v2) (k5 := tl_Fi_goOn_5 N i f) hN hP hpn hk hok hs h01.1 h01.2 hm hfa hc
      have hFS : frS (fun j => if fq j = true then 0 else kd j) sr p F = (match (sStep F.2.1 F.2.2.1 F.1 k (sr (4 * p)) (sr (4 * p + 1)) (sr (4 * p + 2)) (sr (4 * p + 3))).1 with
        | none => ((sStep F.2.1 F.2.2.1 F.1 k (sr (4 * p)) (sr (4 * p + 1)) (sr (4 * p + 2)) (sr (4 * p + 3))).2, F.2.1, F.2.2.1, some p)
        | some q => ((sStep F.2.1 F.2.2.1 F.1 k (sr (4 * p)) (sr (4 * p + 1)) (sr (4 * p + 2)) (sr (4 * p + 3))).2, va_up F.2.1 p q.1, va_up F.2.2.1 p q.2, none)) := by
        unfold frS
        rw [hF]
        dsimp only
        rw [hke]
        rfl
      have R1' : FRep S1 i (p + 1) (frS (fun j => if fq j = true then 0 else kd j) sr p F) := by
        rw [hFS]
        exact R1
      obtain ⟨S2, e2, x2, R2⟩ := ih (p + 1) f S1 _ (by omega) (by omega) (hP.ex x1) R1'
      refine ⟨S2, bs (x := 0) rfl (bs rfl ((if_neg hle).trans (bs rfl ((if_pos hfa).trans ?_)))), x1.tr x2, R2⟩
      by_cases hq : fq p = true
      · have hk0 : k = 0 := by rw [← hke, if_pos hq]
        rw [if_pos ((hfr p hpn).mpr hq)]
        subst hk0
        exact e1.trans e2
      · have hk0 : k = kd p := by rw [← hke, if_neg hq]
        rw [if_neg (fun z => hq ((hfr p hpn).mp z))]
        subst hk0
        refine bs (x := nI (kd p)) ?_ (e1.trans e2)
        rw [ta_n (by omega) (by decide), hpl.1]
