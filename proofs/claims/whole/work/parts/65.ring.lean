/-! how many places three corners have -/
theorem stn_mono {c d : Nat → Bool} : ∀ (m : Nat), (∀ j, j < m → c j = true → d j = true) → stn c m ≤ stn d m := by
  intro m
  induction m with
  | zero => intro _; exact Nat.le_refl 0
  | succ m ih =>
    intro h
    have h1 := ih (fun j hj => h j (by omega))
    unfold stn
    by_cases hc : c m = true
    · rw [if_pos hc, if_pos (h m (by omega) hc)]; omega
    · rw [if_neg hc]; split <;> omega
theorem stn_1 {a m : Nat} (ha : a < m) : stn (fun j => decide (j = a)) m = 1 := by
  have h := stn_one (c := fun _ => false) (d := fun j => decide (j = a)) (k := a) (by decide) (by simp) m ha (fun j _ hj => by simp [hj])
  rw [h, stn_none m (fun g _ => by decide)]
theorem stn_2 {a c m : Nat} (ha : a < m) (hc : c < m) (hac : a ≠ c) : stn (fun j => decide (j = a ∨ j = c)) m = 2 := by
  have h := stn_one (c := fun j => decide (j = a)) (d := fun j => decide (j = a ∨ j = c)) (k := c) (by simp; omega) (by simp) m hc (fun j _ hj => by simp [hj])
  rw [h, stn_1 ha]
theorem stn_3 {a c d m : Nat} (ha : a < m) (hc : c < m) (hd : d < m) (hac : a ≠ c) (had : a ≠ d) (hcd : c ≠ d) : stn (fun j => decide (j = a ∨ j = c ∨ j = d)) m = 3 := by
  have h := stn_one (c := fun j => decide (j = a ∨ j = c)) (d := fun j => decide (j = a ∨ j = c ∨ j = d)) (k := d) (by simp; omega) (by simp) m hd (fun j _ hj => by simp [hj])
  rw [h, stn_2 ha hc hac]
theorem plc_stn (s : Nat → Nat → Bool) (w : Nat) : ∀ n, plc s w n = stn (fun p => decide (w.testBit p = true ∧ ∀ a, a < p → w.testBit a = true → ¬ s a p = true)) n := by
  intro n
  induction n with
  | zero => rfl
  | succ n ih =>
    unfold plc stn
    rw [ih]
    by_cases h : w.testBit n = true ∧ ∀ a, a < n → w.testBit a = true → ¬ s a n = true
    · rw [if_pos h, if_pos (decide_eq_true h)]
    · rw [if_neg h, if_neg (fun z => h (of_decide_eq_true z))]
theorem corners {s : Nat → Nat → Bool} {a c d n w : Nat} (hac : a < c) (hcd : c < d) (hd : d < n) (hw : ∀ j, w.testBit j = true ↔ (j = a ∨ j = c ∨ j = d)) : 3 ≤ plc s w n ↔ (¬ s a c = true ∧ ¬ s a d = true ∧ ¬ s c d = true) := by
  rw [plc_stn]
  constructor
  · intro h
    refine ⟨fun z => ?_, fun z => ?_, fun z => ?_⟩
    · have := stn_mono (c := fun p => decide (w.testBit p = true ∧ ∀ a, a < p → w.testBit a = true → ¬ s a p = true)) (d := fun j => decide (j = a ∨ j = d)) n (fun j _ hj => by
        rw [decide_eq_true_iff] at hj ⊢
        rcases (hw j).mp hj.1 with q | q | q
        · exact Or.inl q
        · subst q; exact absurd z (hj.2 a hac ((hw a).mpr (Or.inl rfl)))
        · exact Or.inr q)
      rw [stn_2 (by omega) hd (by omega)] at this
      omega
    · have := stn_mono (c := fun p => decide (w.testBit p = true ∧ ∀ a, a < p → w.testBit a = true → ¬ s a p = true)) (d := fun j => decide (j = a ∨ j = c)) n (fun j _ hj => by
        rw [decide_eq_true_iff] at hj ⊢
        rcases (hw j).mp hj.1 with q | q | q
        · exact Or.inl q
        · exact Or.inr q
        · subst q; exact absurd z (hj.2 a (by omega) ((hw a).mpr (Or.inl rfl))))
      rw [stn_2 (by omega) (by omega) (by omega)] at this
      omega
    · have := stn_mono (c := fun p => decide (w.testBit p = true ∧ ∀ a, a < p → w.testBit a = true → ¬ s a p = true)) (d := fun j => decide (j = a ∨ j = c)) n (fun j _ hj => by
        rw [decide_eq_true_iff] at hj ⊢
        rcases (hw j).mp hj.1 with q | q | q
        · exact Or.inl q
        · exact Or.inr q
        · subst q; exact absurd z (hj.2 c hcd ((hw c).mpr (Or.inr (Or.inl rfl)))))
      rw [stn_2 (by omega) (by omega) (by omega)] at this
      omega
  · rintro ⟨h1, h2, h3⟩
    have := stn_mono (c := fun j => decide (j = a ∨ j = c ∨ j = d)) (d := fun p => decide (w.testBit p = true ∧ ∀ a, a < p → w.testBit a = true → ¬ s a p = true)) n (fun j _ hj => by
      rw [decide_eq_true_iff] at hj ⊢
      refine ⟨(hw j).mpr hj, fun p hp hpw => ?_⟩
      have hp2 := (hw p).mp hpw
      rcases hj with q | q | q
      · subst q; omega
      · subst q
        have : p = a := by omega
        subst this; exact h1
      · subst q
        have : p = a ∨ p = c := by omega
        rcases this with r | r
        · subst r; exact h2
        · subst r; exact h3)
    rw [stn_3 (by omega) (by omega) hd (by omega) (by omega) (by omega)] at this
    exact this
section RNG
variable {N : Nat} {S : CS} {f n : Nat} {b : Nat → Bool} {X Y : Nat → Nat → Int}
theorem p_addRing {a c d k : Nat} {q : Nat → Bool} {S1 : CS} (hN : 200 ≤ N) (hcd : CD S 0 f n b X Y) (hpt : cs_pts S = nI n) (hl : ∀ p, p < n → cs_leads S p = nI (led f b X Y p)) (hac : a < c) (hcd2 : c < d) (hd : d < n) (hR : RI S 10 q k S1) (hk : k < 120) : ∃ S2, t_Fs_addRing N (nI a) (nI c) (nI d) S1 = some S2 ∧ RI S 10 (fun m => q m || ringc f n b X Y a c d m) (k + 1) S2 := by
  have hn := hcd.2.1
  have hcd1 := hR.1.cd (by decide) hcd
  have hpt1 : cs_pts S1 = nI n := by rw [hR.1.pts (by decide), hpt]
  have hl1 : ∀ p, p < n → cs_leads S1 p = nI (led f b X Y p) := fun p hp => by rw [hR.1.leads (by decide)]; exact hl p hp
  have hw3 : w6 a c d 0 0 0 < 2147483648 := by have := w6_lt (a := a) (b := c) (c := d) (d := 0) (e := 0) (f := 0) (by omega) (by omega) (by omega) (by omega) (by omega) (by omega); omega
  have el := p_shown (N := N) (i := 0) (k := 1) (w := w6 a c d 0 0 0) (by omega) hcd1 (by decide) hw3 (w3_j hn (by omega) (by omega) hd)
  have hmask : 2 ^ a ||| 2 ^ c ||| 2 ^ d < 1024 := or_lt (or_lt (p2_lt a (by omega)) (by omega)) (by omega)
  have hbits : ∀ j, (2 ^ a ||| 2 ^ c ||| 2 ^ d).testBit j = true ↔ (j = a ∨ j = c ∨ j = d) := fun j => by
    rw [tb_or, tb_or, Nat.testBit_two_pow, Bool.or_eq_true, Bool.or_eq_true, decide_eq_true_iff, decide_eq_true_iff, decide_eq_true_iff]
    omega
  have e0 := p_placesOf (N := N) (w := 2 ^ a ||| 2 ^ c ||| 2 ^ d) (by omega) hn hpt1 hl1 (by omega)
  have hp0 := plc_le (sam f b X Y) (2 ^ a ||| 2 ^ c ||| 2 ^ d) n
  have hcor := corners (s := sam f b X Y) hac hcd2 hd hbits
  have m1 : some ((1 : Int32) <<< (nI a &&& 31) ||| (1 : Int32) <<< (nI c &&& 31)) = some (nI (2 ^ a ||| 2 ^ c)) := by rw [sh_one _ (by omega), sh_one _ (by omega), nI_or]
  have m2 : some (nI (2 ^ a ||| 2 ^ c) ||| (1 : Int32) <<< (nI d &&& 31)) = some (nI (2 ^ a ||| 2 ^ c ||| 2 ^ d)) := by rw [sh_one _ (by omega), nI_or]
  unfold t_Fs_addRing
  by_cases h3 : plc (sam f b X Y) (2 ^ a ||| 2 ^ c ||| 2 ^ d) n < 3
  · refine ⟨S1, bs m1 <| bs m2 <| bs e0 <| if_pos (nI_lt (b := 3) h3 (by decide)), hR.to (fun m _ => ?_) (by omega)⟩
    unfold ringc
    rw [decide_eq_false (fun z => by have := hcor.mpr ⟨z.1, z.2.1, z.2.2.1⟩; omega), Bool.or_false]
  · have h3' := hcor.mp (by omega)
    have n3 : ¬ nI (plc (sam f b X Y) (2 ^ a ||| 2 ^ c ||| 2 ^ d) n) < 3 := nI_nlt (b := 3) (by omega) (by omega)
    by_cases hln : alk f b X Y 1 (v3 a c d) = true
    · refine ⟨S1, bs m1 <| bs m2 <| bs e0 <| (if_neg n3).trans <| bs (p_pack (by omega) (by omega) (by omega)) <| bs el <| if_neg (fun z => bI_0.mp z hln), hR.to (fun m _ => ?_) (by omega)⟩
      unfold ringc
      rw [decide_eq_false (fun z => z.2.2.2.1 hln), Bool.or_false]
    · have main := up_loop (σ := Nat) (L := fun fu p l => tl_Fs_addRing_48 N fu (nI a) (nI c) (nI d) (nI l) (nI p) S1) (e := n) (I := fun p l => l < 1024 ∧ ∀ j, l.testBit j = true ↔ (j = a ∨ j = c ∨ j = d ∨ (j < p ∧ alk f b X Y 5 (v4 a c d j) = true))) (Q := fun o => ∃ S2, o = some S2 ∧ RI S 10 (fun m => q m || ringc f n b X Y a c d m) (k + 1) S2) (by
        intro fu p l hp hI
        have hle : ¬ cs_pts S1 ≤ nI p := by rw [hpt1]; exact nI_ge hp (by omega)
        have nx1 : some (nI p + 1) = some (nI (p + 1)) := by rw [nI_1]
        have es := p_shown (N := N) (i := 0) (k := 5) (w := w6 a c d p 0 0) (by omega) hcd1 (by decide) (by have := w6_lt (a := a) (b := c) (c := d) (d := p) (e := 0) (f := 0) (by omega) (by omega) (by omega) (by omega) (by omega) (by omega); omega) (w4_j hn (by omega) (by omega) hd hp)
        have ep := p_pack (N := N) (a := a) (b := c) (c := d) (by omega) (by omega) (by omega)
        have ej := p_four (N := N) (a := a) (b := c) (c := d) (d := p) (by omega) (by omega) (by omega) (by omega)
        refine Or.inl ?_
        show ∃ s', tb_Fs_addRing_48 N (tl_Fs_addRing_48 N fu) (nI a) (nI c) (nI d) (nI l) (nI p) S1 = _ ∧ _
        unfold tb_Fs_addRing_48 tb_Fs_addRing_88
        by_cases hsh : alk f b X Y 5 (v4 a c d p) = true
        · refine ⟨l ||| 2 ^ p, bs rfl <| (if_neg hle).trans <| bs ep <| bs ej <| bs es <| (if_neg (fun z => bI_0.mp z hsh)).trans <| bs (by rw [sh_one _ (by omega), nI_or]) <| bs nx1 rfl, or_lt hI.1 (by omega), fun j => ?_⟩
          rw [tb_or, Bool.or_eq_true, hI.2 j, decide_eq_true_iff]
          constructor
          · rintro ((h | h | h | ⟨h, h2⟩) | h)
            · exact Or.inl h
            · exact Or.inr (Or.inl h)
            · exact Or.inr (Or.inr (Or.inl h))
            · exact Or.inr (Or.inr (Or.inr ⟨by omega, h2⟩))
            · subst h; exact Or.inr (Or.inr (Or.inr ⟨by omega, hsh⟩))
          · rintro (h | h | h | ⟨h, h2⟩)
            · exact Or.inl (Or.inl h)
            · exact Or.inl (Or.inr (Or.inl h))
            · exact Or.inl (Or.inr (Or.inr (Or.inl h)))
            · by_cases hjp : j = p
              · exact Or.inr hjp.symm
              · exact Or.inl (Or.inr (Or.inr (Or.inr ⟨by omega, h2⟩)))
        · refine ⟨l, bs rfl <| (if_neg hle).trans <| bs ep <| bs ej <| bs es <| (if_pos (bI_0.mpr hsh)).trans <| bs nx1 rfl, hI.1, fun j => ?_⟩
          rw [hI.2 j]
          constructor
          · rintro (h | h | h | ⟨h, h2⟩)
            · exact Or.inl h
            · exact Or.inr (Or.inl h)
            · exact Or.inr (Or.inr (Or.inl h))
            · exact Or.inr (Or.inr (Or.inr ⟨by omega, h2⟩))
          · rintro (h | h | h | ⟨h, h2⟩)
            · exact Or.inl h
            · exact Or.inr (Or.inl h)
            · exact Or.inr (Or.inr (Or.inl h))
            · by_cases hjp : j = p
              · subst hjp; exact absurd h2 hsh
              · exact Or.inr (Or.inr (Or.inr ⟨by omega, h2⟩))) (by
        intro fu l hI
        have hrng : l = rng f n b X Y a c d := by
          apply Nat.eq_of_testBit_eq
          intro j
          apply bool_ext
          unfold rng
          rw [hI.2 j, msk_tb, decide_eq_true_iff]
          constructor
          · rintro (h | h | h | ⟨h, h2⟩)
            · exact ⟨by omega, Or.inl h⟩
            · exact ⟨by omega, Or.inr (Or.inl h)⟩
            · exact ⟨by omega, Or.inr (Or.inr (Or.inl h))⟩
            · exact ⟨h, Or.inr (Or.inr (Or.inr h2))⟩
          · rintro ⟨h1, h | h | h | h⟩
            · exact Or.inl h
            · exact Or.inr (Or.inl h)
            · exact Or.inr (Or.inr (Or.inl h))
            · exact Or.inr (Or.inr (Or.inr ⟨h1, h⟩))
        have ep := p_placesOf (N := N) (w := l) (by omega) hn hpt1 hl1 (by omega)
        have hple := plc_le (sam f b X Y) l n
        show ∃ S2, tb_Fs_addRing_48 N (tl_Fs_addRing_48 N fu) (nI a) (nI c) (nI d) (nI l) (nI n) S1 = some S2 ∧ _
        unfold tb_Fs_addRing_48
        by_cases h4 : plc (sam f b X Y) l n < 4
        · refine ⟨S1, bs rfl <| (if_pos (by rw [hpt1]; exact nI_le (Nat.le_refl n) (by omega))).trans <| bs ep <| if_pos (nI_lt (b := 4) h4 (by decide)), hR.to (fun m _ => ?_) (by omega)⟩
          unfold ringc
          rw [decide_eq_false (fun z => by have z2 := z.2.2.2.2.2; rw [z.2.2.2.2.1, ← hrng] at z2; omega), Bool.or_false]
        · obtain ⟨S2, e2, R2⟩ := hR.rise (N := N) (w := l) (by show 120 + 5 ≤ N; omega) hk hI.1
          refine ⟨S2, bs rfl <| (if_pos (by rw [hpt1]; exact nI_le (Nat.le_refl n) (by omega))).trans <| bs ep <| (if_neg (nI_nlt (b := 4) (by omega) (by omega))).trans <| bs e2 rfl, R2.to (fun m _ => ?_) (Nat.le_refl _)⟩
          show (q m || _) = (q m || _)
          congr 1
          unfold ringc
          apply decide_eq_decide.mpr
          constructor
          · intro h
            exact ⟨h3'.1, h3'.2.1, h3'.2.2, hln, by rw [h, hrng], by rw [h]; omega⟩
          · intro h
            rw [h.2.2.2.2.1, hrng])
      obtain ⟨S2, e2, R2⟩ := main n 0 N (2 ^ a ||| 2 ^ c ||| 2 ^ d) (by omega) (by omega) ⟨hmask, fun j => by
        rw [hbits j]
        constructor
        · rintro (h | h | h)
          · exact Or.inl h
          · exact Or.inr (Or.inl h)
          · exact Or.inr (Or.inr (Or.inl h))
        · rintro (h | h | h | ⟨h, _⟩)
          · exact Or.inl h
          · exact Or.inr (Or.inl h)
          · exact Or.inr (Or.inr h)
          · omega⟩
      exact ⟨S2, bs m1 <| bs m2 <| bs e0 <| (if_neg n3).trans <| bs (p_pack (by omega) (by omega) (by omega)) <| bs el <| (if_pos (bI_0.mpr hln)).trans e2, R2⟩
end RNG
