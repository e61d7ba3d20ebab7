/-! the class's numbers of a ratio -/
theorem quo {A C Q m n : Int} (hA : A % 1000003 ≠ 0) (hQ : Q % 1000003 = (C * iv A) % 1000003) : (m * A) % 1000003 = (n * C) % 1000003 ↔ m % 1000003 = (Q * n) % 1000003 := by
  have hAQ : (A * Q) % 1000003 = C % 1000003 := by
    rw [cg_mul (a := A) rfl hQ, show A * (C * iv A) = (A * iv A) * C from by rw [Int.mul_comm C, Int.mul_assoc], cg_mul (a := A * iv A) (b := 1) (c := C) (d := C) (iv_mul hA) rfl, Int.one_mul]
  have e1 : (A * (Q * n)) % 1000003 = (n * C) % 1000003 := by
    rw [← Int.mul_assoc, cg_mul (c := n) (d := n) hAQ rfl, Int.mul_comm]
  constructor
  · intro h
    apply cancel hA
    rw [e1, Int.mul_comm A m]
    exact h
  · intro h
    rw [← e1, Int.mul_comm m A]
    exact cg_mul rfl h
/-- the divisor and its inverse -/
def DV (S : CS) : Prop := ∀ j, j < 2 → (cs_invs S j).toInt = iv (cs_divr S j).toInt
theorem p_divide {N : Nat} {S : CS} {i : Nat} {x y : Int64} {V B : Int} (hN : 25 ≤ N) (hi : i < 2) (hD : DV S) (hx : rg x V 1000002) (hV : 0 ≤ V) (hy : rg y B 1000002) (hB : 0 ≤ B) : ∃ (q : Int64) (S' : CS), t_Dr_divide N i x y S = some (q, S') ∧ rg q ((V * iv B) % 1000003) 1000002 ∧ KC [11, 12] S S' ∧ DV S' := by
  have fin : ∀ S' : CS, (cs_invs S' i).toInt = iv B → ∃ q : Int64, tb_Dr_divide_22 N i x S' = some (q, S') ∧ rg q ((V * iv B) % 1000003) 1000002 := by
    intro S' h
    have hl := iv_lt B
    have hr : rg (cs_invs S' i) (iv B) 1000002 := ⟨h, by omega⟩
    have h2 := (hx.mul hr (by decide +kernel)).md
    rw [Int.tmod_eq_emod_of_nonneg (Int.mul_nonneg hV hl.1)] at h2
    exact ⟨_, bs rfl rfl, h2⟩
  unfold t_Dr_divide
  by_cases hb : lg_cmp y (cs_divr S i) = 0
  · have hyd := (lg_cmp_eq _ _).mp hb
    obtain ⟨q, e, hq⟩ := fin S (by rw [hD i hi, ← hyd, hy.1])
    exact ⟨q, S, bs rfl ((if_pos hb).trans e), hq, KC.rf, hD⟩
  · obtain ⟨r3, e3, h3⟩ := p_invertp (N := N) hN hy hB
    obtain ⟨q, e, hq⟩ := fin (cs_set_invs (cs_set_divr S (va_up (cs_divr S) i y)) (va_up (cs_invs (cs_set_divr S (va_up (cs_divr S) i y))) i r3)) (by rw [cs_g_invs_invs, va_up_self, h3])
    refine ⟨q, _, bs rfl ((if_neg hb).trans (bs rfl (bs e3 (bs rfl e)))), hq, (KC.s_divr.mo (by decide)).tr (KC.s_invs.mo (by decide)), fun j hj => ?_⟩
    rw [cs_g_invs_invs, cs_g_divr_invs, cs_g_divr_divr]
    by_cases hji : j = i
    · subst hji
      rw [va_up_self, va_up_self, h3, hy.1]
    · rw [va_up_ne _ _ hji, va_up_ne _ _ hji, cs_g_invs_divr]
      exact hD j hj
theorem p_withNumbers {N w m n : Nat} (hw : w < 2147483648) (hm : m < 16) (hn : n < 16) : t_Dr_withNumbers N (nI w) (nI m) (nI n) = some (nI (w % 65536 + m * 65536 + n * 1048576)) := by
  have e1 : nI w &&& 65535 = nI (w % 65536) := pk_andN (by omega) 16 (by decide)
  have e2 : (nI (w % 65536) ||| (nI m <<< ((16 : Int32) &&& 31))) ||| (nI n <<< ((20 : Int32) &&& 31)) = nI (w % 65536 + m * 2 ^ 16 + n * 2 ^ 20) := by
    rw [pk_shlN _ 16 (by decide) (by omega), pk_shlN _ 20 (by decide) (by omega), nI_or, nI_or, or_add (k := 16) (by omega), or_add (k := 20) (by omega)]
  exact bs (congrArg some e1) (bs (congrArg some e2) rfl)
section NUM
variable {w m n : Nat}
theorem rkn_j (h : m < 16) (j : Nat) (hj : j < 4) : rk (w % 65536 + m * 65536 + n * 1048576) j = rk w j := by
  unfold rk
  match j, hj with
  | 0, _ => rw [show 16 ^ 0 = 1 from rfl]; omega
  | 1, _ => rw [show 16 ^ 1 = 16 from rfl]; omega
  | 2, _ => rw [show 16 ^ 2 = 256 from rfl]; omega
  | 3, _ => rw [show 16 ^ 3 = 4096 from rfl]; omega
  | j + 4, h => omega
theorem rkn_4 (h : m < 16) : rk (w % 65536 + m * 65536 + n * 1048576) 4 = m := by
  unfold rk
  rw [show 16 ^ 4 = 65536 from rfl]; omega
theorem rkn_5 (h : m < 16) (h2 : n < 16) : rk (w % 65536 + m * 65536 + n * 1048576) 5 = n := by
  unfold rk
  rw [show 16 ^ 5 = 1048576 from rfl]; omega
end NUM
/-- a ratio fact with its numbers; 0 where there are none -/
def gnm (w k : Nat) : Nat := if k < 81 then w % 65536 + (k / 9 + 1) * 65536 + (k % 9 + 1) * 1048576 else 0
def rtQ (f : Nat) (b : Nat → Bool) (X Y : Nat → Nat → Int) (v : Nat → Nat) (m n : Nat) : Bool := alw f b (fun g => sho (X g) (Y g) 8 v m n)
theorem sho8 {X Y : Nat → Int} {v : Nat → Nat} {m n : Nat} : sho X Y 8 v m n = true ↔ ((m : Int) * (dtp X Y (v 0) (v 1) (v 0) (v 1) % 1000003)) % 1000003 = ((n : Int) * (dtp X Y (v 2) (v 3) (v 2) (v 3) % 1000003)) % 1000003 := by
  show decide (_ = _) = true ↔ _
  rw [decide_eq_true_iff, cg_mul (a := (m : Int)) rfl (cg_md _), cg_mul (a := (n : Int)) rfl (cg_md (dtp X Y (v 2) (v 3) (v 2) (v 3)))]
theorem rtQ_iff {f : Nat} {b : Nat → Bool} {X Y : Nat → Nat → Int} {v : Nat → Nat} {m n : Nat} : rtQ f b X Y v m n = true ↔ (0 < stn b f ∧ ∀ g, g < f → b g = true → ((m : Int) * (dtp (X g) (Y g) (v 0) (v 1) (v 0) (v 1) % 1000003)) % 1000003 = ((n : Int) * (dtp (X g) (Y g) (v 2) (v 3) (v 2) (v 3) % 1000003)) % 1000003) := by
  unfold rtQ
  rw [alw_iff]
  constructor
  · intro h; exact ⟨h.1, fun g h1 h2 => sho8.mp (h.2 g h1 h2)⟩
  · intro h; exact ⟨h.1, fun g h1 h2 => sho8.mpr (h.2 g h1 h2)⟩
theorem stn_pos {b : Nat → Bool} {g : Nat} (hb : b g = true) : ∀ f, g < f → 0 < stn b f := by
  intro f
  induction f with
  | zero => intro h; omega
  | succ f ih =>
    intro h
    show 0 < if b f = true then stn b f + 1 else stn b f
    by_cases hgf : g = f
    · subst hgf; rw [if_pos hb]; omega
    · have := ih (by omega)
      split <;> omega
section GIV
variable {N : Nat} {S : CS} {i f n : Nat} {b : Nat → Bool} {X Y : Nat → Nat → Int} {w : Nat}
theorem p_first (hN : 25 ≤ N) (h : CD S i f n b X Y) (hw : w < 2147483648) (hp : ∀ j, j < 4 → rk w j < n) : ∃ o, t_Dr_firstWithLength N i (nI w) S = some o ∧ match o with
    | none => ∀ g, g < f → b g = true → dtp (X g) (Y g) (rk w 0) (rk w 1) (rk w 0) (rk w 1) % 1000003 = 0 ∧ dtp (X g) (Y g) (rk w 2) (rk w 3) (rk w 2) (rk w 3) % 1000003 = 0
    | some j => ∃ g, g < f ∧ j = 5 * i + g ∧ b g = true ∧ (dtp (X g) (Y g) (rk w 0) (rk w 1) (rk w 0) (rk w 1) % 1000003 ≠ 0 ∨ dtp (X g) (Y g) (rk w 2) (rk w 3) (rk w 2) (rk w 3) % 1000003 ≠ 0) := by
  obtain ⟨hf5, hn10, hd, hst, hfig⟩ := h
  have u0 := p_unpack (N := N) hw (k := 0) (by decide)
  have u1 := p_unpack (N := N) hw (k := 1) (by decide)
  have u2 := p_unpack (N := N) hw (k := 2) (by decide)
  have u3 := p_unpack (N := N) hw (k := 3) (by decide)
  have main := up_loop (σ := Unit) (L := fun fu g _ => tl_Dr_firstWithLength_2 N i fu (nI w) (nI g) S) (e := f) (I := fun p _ => ∀ g, g < p → b g = true → dtp (X g) (Y g) (rk w 0) (rk w 1) (rk w 0) (rk w 1) % 1000003 = 0 ∧ dtp (X g) (Y g) (rk w 2) (rk w 3) (rk w 2) (rk w 3) % 1000003 = 0) (Q := fun e => ∃ o, e = some o ∧ match o with
    | none => ∀ g, g < f → b g = true → dtp (X g) (Y g) (rk w 0) (rk w 1) (rk w 0) (rk w 1) % 1000003 = 0 ∧ dtp (X g) (Y g) (rk w 2) (rk w 3) (rk w 2) (rk w 3) % 1000003 = 0
    | some j => ∃ g, g < f ∧ j = 5 * i + g ∧ b g = true ∧ (dtp (X g) (Y g) (rk w 0) (rk w 1) (rk w 0) (rk w 1) % 1000003 ≠ 0 ∨ dtp (X g) (Y g) (rk w 2) (rk w 3) (rk w 2) (rk w 3) % 1000003 ≠ 0)) (by
    intro fu g u hg hI
    have hx : ta 5 (fun z => 5 * i + z) (nI g) = some (5 * i + g) := ta_n (by omega) (by decide)
    have hle : ¬ cs_dsize S i ≤ nI g := by rw [hd]; exact nI_ge hg (by omega)
    have nx1 : some (nI g + 1) = some (nI (g + 1)) := by rw [nI_1]
    obtain ⟨hfa, hcx⟩ := hfig g hg
    show (∃ s', tb_Dr_firstWithLength_2 N (tl_Dr_firstWithLength_2 N i fu) i (nI w) (nI g) S = _ ∧ _) ∨ (∃ o, tb_Dr_firstWithLength_2 N (tl_Dr_firstWithLength_2 N i fu) i (nI w) (nI g) S = some o ∧ _)
    unfold tb_Dr_firstWithLength_2 tb_Dr_firstWithLength_65
    by_cases hb : b g = true
    · obtain ⟨r1, e1, h1⟩ := p_length (N := N) (hcx hb) (hp 0 (by decide)) (hp 1 (by decide))
      obtain ⟨r2, e2, h2⟩ := p_length (N := N) (hcx hb) (hp 2 (by decide)) (hp 3 (by decide))
      by_cases hA : dtp (X g) (Y g) (rk w 0) (rk w 1) (rk w 0) (rk w 1) % 1000003 = 0
      · by_cases hC : dtp (X g) (Y g) (rk w 2) (rk w 3) (rk w 2) (rk w 3) % 1000003 = 0
        · refine Or.inl ⟨(), bs rfl ((if_neg hle).trans (bs hx (bs rfl ((if_pos (hfa.mpr hb)).trans (bs u0 (bs u1 (bs e1 ((if_pos ((lgz h1 rg_0).mpr hA)).trans (bs u2 (bs u3 (bs e2 ((if_pos ((lgz h2 rg_0).mpr hC)).trans (bs nx1 rfl))))))))))))), fun g2 hg2 hb2 => ?_⟩
          by_cases hgg : g2 = g
          · subst hgg; exact ⟨hA, hC⟩
          · exact hI g2 (by omega) hb2
        · exact Or.inr ⟨some (5 * i + g), bs rfl <| (if_neg hle).trans <| bs hx <| bs rfl <| (if_pos (hfa.mpr hb)).trans <| bs u0 <| bs u1 <| bs e1 <| (if_pos ((lgz h1 rg_0).mpr hA)).trans <| bs u2 <| bs u3 <| bs e2 <| if_neg (fun z => hC ((lgz h2 rg_0).mp z)), g, hg, rfl, hb, Or.inr hC⟩
      · exact Or.inr ⟨some (5 * i + g), bs rfl ((if_neg hle).trans (bs hx (bs rfl ((if_pos (hfa.mpr hb)).trans (bs u0 (bs u1 (bs e1 (if_neg (fun z => hA ((lgz h1 rg_0).mp z)))))))))), g, hg, rfl, hb, Or.inl hA⟩
    · refine Or.inl ⟨(), bs rfl ((if_neg hle).trans (bs hx (bs rfl ((if_neg (fun z => hb (hfa.mp z))).trans (bs nx1 rfl))))), fun g2 hg2 hb2 => ?_⟩
      by_cases hgg : g2 = g
      · subst hgg; exact absurd hb2 hb
      · exact hI g2 (by omega) hb2) (by
    intro fu u hI
    refine ⟨none, ?_, hI⟩
    show tb_Dr_firstWithLength_2 N (tl_Dr_firstWithLength_2 N i fu) i (nI w) (nI f) S = _
    unfold tb_Dr_firstWithLength_2
    exact bs rfl (if_pos (by rw [hd]; exact nI_le (Nat.le_refl f) (by omega))))
  exact main f 0 N () (by omega) (by omega) (fun g hg => by omega)
theorem p_shown8 {m1 n1 : Nat} (hN : 25 ≤ N) (h : CD S i f n b X Y) (hw : w < 2147483648) (hp : ∀ j, j < 4 → rk w j < n) (hm : m1 < 16) (hn1 : n1 < 16) : t_Dr_isShown N i 8 (nI (w % 65536 + m1 * 65536 + n1 * 1048576)) S = some (bI (rtQ f b X Y (rk w) m1 n1)) := by
  have e := p_isShown (N := N) (k := 8) (w := w % 65536 + m1 * 65536 + n1 * 1048576) hN h (by decide) (by omega) (fun j hj => by rw [rkn_j hm j hj]; exact hp j hj)
  refine e.trans ?_
  unfold rtQ
  have : (fun g => sho (X g) (Y g) 8 (rk (w % 65536 + m1 * 65536 + n1 * 1048576)) (rk (w % 65536 + m1 * 65536 + n1 * 1048576) 4) (rk (w % 65536 + m1 * 65536 + n1 * 1048576) 5)) = fun g => sho (X g) (Y g) 8 (rk w) m1 n1 := by
    funext g
    show decide (_ = _) = decide (_ = _)
    rw [rkn_4 hm, rkn_5 hm hn1, rkn_j hm 0 (by decide), rkn_j hm 1 (by decide), rkn_j hm 2 (by decide), rkn_j hm 3 (by decide)]
  rw [this]
theorem p_give (hN : 25 ≤ N) (hi : i < 2) (h : CD S i f n b X Y) (hD : DV S) (hw : w < 2147483648) (hp : ∀ j, j < 4 → rk w j < n) : ∃ S', t_Dr_giveNumbers N i (nI w) S = some (nI (gnm w (rat (rtQ f b X Y (rk w)))), S') ∧ KC [11, 12] S S' ∧ DV S' := by
  obtain ⟨o, eo, ho⟩ := p_first (N := N) hN h hw hp
  have h0 := h
  obtain ⟨hf5, hn10, hd, hst, hfig⟩ := h
  have hsl := stn_le b f
  unfold t_Dr_giveNumbers
  match o, ho with
  | none, ho =>
    by_cases hz : stn b f = 0
    · have hr : rat (rtQ f b X Y (rk w)) = 81 := rat_81 (fun j hj hjt => by
        unfold rtP at hjt
        rw [Bool.and_eq_true] at hjt
        have := (rtQ_iff.mp hjt.2).1
        omega)
      rw [hr]
      refine ⟨S, bs eo ((if_pos rfl).trans (bs rfl ((if_pos (by rw [hst, hz]; decide)).trans rfl))), KC.rf, hD⟩
    · have hr : rat (rtQ f b X Y (rk w)) = 1 := rat_eq (k := 1) (by decide) (by
        unfold rtP
        rw [Bool.and_eq_true]
        refine ⟨by decide, rtQ_iff.mpr ⟨by omega, fun g hg hb => ?_⟩⟩
        obtain ⟨z1, z2⟩ := ho g hg hb
        rw [z1, z2, Int.mul_zero, Int.mul_zero]) (fun j hj hjt => by
        have : j = 0 := by omega
        subst this
        unfold rtP at hjt
        rw [Bool.and_eq_true] at hjt
        exact absurd hjt.1 (by decide))
      rw [hr]
      have e := p_withNumbers (N := N) (m := 1) (n := 2) hw (by decide) (by decide)
      exact ⟨S, bs eo ((if_pos rfl).trans (bs rfl ((if_neg (by rw [hst]; exact nI_nle (by omega) (by omega))).trans (bs e rfl)))), KC.rf, hD⟩
  | some j, ho =>
    obtain ⟨g, hg, rfl, hb, hac⟩ := ho
    have u0 := p_unpack (N := N) hw (k := 0) (by decide)
    have u1 := p_unpack (N := N) hw (k := 1) (by decide)
    have u2 := p_unpack (N := N) hw (k := 2) (by decide)
    have u3 := p_unpack (N := N) hw (k := 3) (by decide)
    have htk : tk 10 (some (5 * i + g)) = some (5 * i + g) := if_pos (by omega)
    have hcx := (hfig g hg).2 hb
    obtain ⟨r1, e1, h1⟩ := p_length (N := N) hcx (hp 0 (by decide)) (hp 1 (by decide))
    obtain ⟨r2, e2, h2⟩ := p_length (N := N) hcx (hp 2 (by decide)) (hp 3 (by decide))
    have iff0 : ∀ m1 n1, rtQ f b X Y (rk w) m1 n1 = true → ((m1 : Int) * (dtp (X g) (Y g) (rk w 0) (rk w 1) (rk w 0) (rk w 1) % 1000003)) % 1000003 = ((n1 : Int) * (dtp (X g) (Y g) (rk w 2) (rk w 3) (rk w 2) (rk w 3) % 1000003)) % 1000003 := fun m1 n1 hq => (rtQ_iff.mp hq).2 g hg hb
    have hA01 := md_in (dtp (X g) (Y g) (rk w 0) (rk w 1) (rk w 0) (rk w 1))
    have hC01 := md_in (dtp (X g) (Y g) (rk w 2) (rk w 3) (rk w 2) (rk w 3))
    have zA := lgz h1 rg_0
    have zC := lgz h2 rg_0
    generalize hAe : dtp (X g) (Y g) (rk w 0) (rk w 1) (rk w 0) (rk w 1) % 1000003 = A at *
    generalize hCe : dtp (X g) (Y g) (rk w 2) (rk w 3) (rk w 2) (rk w 3) % 1000003 = C at *
    by_cases hA : A = 0
    · have hr : rat (rtQ f b X Y (rk w)) = 81 := rat_81 (fun k hk hkt => by
        unfold rtP at hkt
        rw [Bool.and_eq_true] at hkt
        have h5 := iff0 _ _ hkt.2
        rw [hA, Int.mul_zero] at h5
        have h6 := cancel (v := ((k % 9 + 1 : Nat) : Int)) (a := 0) (c := C) (small_nz (by omega) (by omega)) (by rw [Int.mul_zero]; exact h5)
        rcases hac with h7 | h7
        · exact h7 hA
        · omega)
      rw [hr]
      exact ⟨S, bs eo ((if_neg (by intro z; cases z)).trans (bs u0 (bs u1 (bs htk (bs e1 (bs u2 (bs u3 (bs e2 (if_pos (zA.mpr hA)))))))))), KC.rf, hD⟩
    · by_cases hC : C = 0
      · have hr : rat (rtQ f b X Y (rk w)) = 81 := rat_81 (fun k hk hkt => by
          unfold rtP at hkt
          rw [Bool.and_eq_true] at hkt
          have h5 := iff0 _ _ hkt.2
          rw [hC, Int.mul_zero] at h5
          have h6 := cancel (v := ((k / 9 + 1 : Nat) : Int)) (a := A) (c := 0) (small_nz (by omega) (by omega)) (by rw [Int.mul_zero]; exact h5)
          omega)
        rw [hr]
        exact ⟨S, bs eo ((if_neg (by intro z; cases z)).trans (bs u0 (bs u1 (bs htk (bs e1 (bs u2 (bs u3 (bs e2 ((if_neg (fun z => hA (zA.mp z))).trans (if_pos (zC.mpr hC))))))))))), KC.rf, hD⟩
      · obtain ⟨q, S1, e3, hq, k1, D1⟩ := p_divide (N := N) hN hi hD h2 hC01.1 h1 hA01.1
        have hcd1 := k1.cd (by decide) h0
        have hA2 : A % 1000003 ≠ 0 := by omega
        have hC2 : C % 1000003 ≠ 0 := by omega
        have qq : ∀ m1 n1 : Nat, ((m1 : Int) * A) % 1000003 = ((n1 : Int) * C) % 1000003 ↔ (m1 : Int) % 1000003 = (((C * iv A) % 1000003) * (n1 : Int)) % 1000003 := fun m1 n1 => quo (m := (m1 : Int)) (n := (n1 : Int)) hA2 (cg_md _)
        have hQ01 := md_in (C * iv A)
        generalize hQe : (C * iv A) % 1000003 = Q at *
        have Q0 : Q % 1000003 ≠ 0 := by
          intro z
          have z2 := (qq 0 1).mpr (by rw [Int.mul_emod, z]; rfl)
          rw [show ((1 : Nat) : Int) * C = C from Int.one_mul C, show ((0 : Nat) : Int) * A = 0 from Int.zero_mul A] at z2
          exact hC2 z2.symm
        have hloop := up_loop (σ := Unit) (L := fun fu m _ => tl_Dr_giveNumbers_86 N i fu (nI w) q (nI m) S1) (e := 10) (I := fun m _ => 0 < m ∧ ∀ n1, 0 < n1 → n1 < m → ¬ ((Q * (n1 : Int)) % 1000003 ≤ 9 ∧ (Q * (n1 : Int)) % 1000003 ≠ (n1 : Int))) (Q := fun e => e = some (nI (gnm w (rat (rtQ f b X Y (rk w)))), S1)) (by
          intro fu m u hm10 hI
          obtain ⟨hm0, hI⟩ := hI
          have am : rg (nI m).toInt64 (m : Int) 16 := (show ri (nI m) (m : Int) 16 from ⟨nI_toInt (by omega), by omega⟩).l
          have hx := (hq.mul am (by decide +kernel)).md
          rw [Int.tmod_eq_emod_of_nonneg (Int.mul_nonneg hQ01.1 (by omega))] at hx
          have hT := md_in (Q * (m : Int))
          have a9 : rg (9 : Int64) 9 9 := ⟨by decide, by decide⟩
          have c9 : 0 < lg_cmp (fr_l (q * (nI m).toInt64) 1000003) 9 ↔ ¬ (Q * (m : Int)) % 1000003 ≤ 9 := by
            rw [← Int32.not_le, lg_cmp_le, Int64.le_iff_toInt_le, hx.1, a9.1]
          have cm := lgz hx am
          have nx1 : some (nI m + 1) = some (nI (m + 1)) := by rw [nI_1]
          have h9 : ¬ 9 < nI m := nI_nlt (a := 9) (b := m) (by omega) (by decide) |> fun z => fun y => z y
          show (∃ s', tb_Dr_giveNumbers_86 N (tl_Dr_giveNumbers_86 N i fu) i (nI w) q (nI m) S1 = _ ∧ _) ∨ tb_Dr_giveNumbers_86 N (tl_Dr_giveNumbers_86 N i fu) i (nI w) q (nI m) S1 = _
          unfold tb_Dr_giveNumbers_86 tb_Dr_giveNumbers_152
          by_cases hT9 : (Q * (m : Int)) % 1000003 ≤ 9
          · by_cases hTm : (Q * (m : Int)) % 1000003 = (m : Int)
            · refine Or.inl ⟨(), (if_neg h9).trans <| bs rfl <| (if_neg (fun z => c9.mp z hT9)).trans <| (if_pos (cm.mpr hTm)).trans <| bs nx1 rfl, by omega, fun n1 h1 h2 h3 => ?_⟩
              by_cases hnm : n1 = m
              · subst hnm; exact h3.2 hTm
              · exact hI n1 h1 (by omega) h3
            · obtain ⟨m0, hm0e⟩ : ∃ m0 : Nat, (Q * (m : Int)) % 1000003 = (m0 : Int) := ⟨((Q * (m : Int)) % 1000003).toNat, by omega⟩
              have hx32 : (fr_l (q * (nI m).toInt64) 1000003).toInt32 = nI m0 := by
                apply Int32.toInt_inj.mp
                rw [(hx.i (by decide)).1, nI_toInt (by omega), hm0e]
              have hm0p : 0 < m0 := by
                by_cases hz : m0 = 0
                · have z1 : ((m : Int) * Q) % 1000003 = ((m : Int) * 0) % 1000003 := by
                    rw [Int.mul_comm, hm0e, hz, Int.mul_zero]; rfl
                  have z2 := cancel (small_nz (m := m) (by omega) (by omega)) z1
                  exact absurd z2 Q0
                · omega
              have key : ∀ m1 n1, 0 < m1 → m1 < 10 → 0 < n1 → n1 < 10 → m1 ≠ n1 → rtQ f b X Y (rk w) m1 n1 = true → m0 * n1 = m1 * m ∧ m ≤ n1 := by
                intro m1 n1 h1 h2 h3 h4 h5 h6
                have h7 := (qq m1 n1).mp (iff0 m1 n1 h6)
                refine ⟨?_, ?_⟩
                · have z1 : ((m0 : Int) * (n1 : Int)) % 1000003 = ((m1 : Int) * (m : Int)) % 1000003 := by
                    rw [← hm0e, cg_mul (cg_md (Q * (m : Int))) (rfl : (n1 : Int) % 1000003 = (n1 : Int) % 1000003), cg_mul h7 (rfl : (m : Int) % 1000003 = (m : Int) % 1000003), Int.mul_assoc, Int.mul_assoc, Int.mul_comm (m : Int)]
                  have b1 : m0 * n1 ≤ 9 * 9 := Nat.mul_le_mul (by omega) (by omega)
                  have b2 : m1 * m ≤ 9 * 9 := Nat.mul_le_mul (by omega) (by omega)
                  have z2 : ((m0 * n1 : Nat) : Int) % 1000003 = ((m1 * m : Nat) : Int) % 1000003 := by
                    rw [Int.natCast_mul, Int.natCast_mul]; exact z1
                  omega
                · by_cases h8 : m ≤ n1
                  · exact h8
                  · exact absurd ⟨by rw [← h7]; omega, by rw [← h7]; omega⟩ (hI n1 h3 (by omega))
              have ew := p_withNumbers (N := N) (w := w) (m := m0) (n := m) hw (by omega) (by omega)
              have es := p_shown8 (N := N) (m1 := m0) (n1 := m) hN hcd1 hw hp (by omega) (by omega)
              refine Or.inr ?_
              by_cases hs : rtQ f b X Y (rk w) m0 m = true
              · have hr := rat_min (P := rtQ f b X Y (rk w)) (m := m0) (n := m) (by omega) (by omega) (by omega) hs key
                rw [hr]
                have hg2 : gnm w (9 * (m0 - 1) + (m - 1)) = w % 65536 + m0 * 65536 + m * 1048576 := by
                  unfold gnm
                  rw [if_pos (by omega), show (9 * (m0 - 1) + (m - 1)) / 9 + 1 = m0 from by omega, show (9 * (m0 - 1) + (m - 1)) % 9 + 1 = m from by omega]
                rw [hg2]
                exact (if_neg h9).trans <| bs rfl <| (if_neg (fun z => c9.mp z hT9)).trans <| (if_neg (fun z => hTm (cm.mp z))).trans <| bs (by rw [hx32]; exact ew) <| bs es <| if_neg (fun z => bI_0.mp z hs)
              · have hr : rat (rtQ f b X Y (rk w)) = 81 := rat_81 (fun k hk hkt => by
                  unfold rtP at hkt
                  rw [Bool.and_eq_true, decide_eq_true_iff] at hkt
                  obtain ⟨y1, y2⟩ := key (k / 9 + 1) (k % 9 + 1) (by omega) (by omega) (by omega) (by omega) (by omega) hkt.2
                  have y3 := rtQ_iff.mp hkt.2
                  refine hs (rtQ_iff.mpr ⟨y3.1, fun g2 hg2 hb2 => ?_⟩)
                  have y4 := y3.2 g2 hg2 hb2
                  have y5 : ((m0 : Int) * ((k % 9 + 1 : Nat) : Int)) = ((k / 9 + 1 : Nat) : Int) * (m : Int) := by
                    rw [← Int.natCast_mul, ← Int.natCast_mul, y1]
                  generalize dtp (X g2) (Y g2) (rk w 0) (rk w 1) (rk w 0) (rk w 1) % 1000003 = A2 at y4 ⊢
                  generalize dtp (X g2) (Y g2) (rk w 2) (rk w 3) (rk w 2) (rk w 3) % 1000003 = C2 at y4 ⊢
                  apply cancel (v := ((k % 9 + 1 : Nat) : Int)) (small_nz (by omega) (by omega))
                  rw [show ((k % 9 + 1 : Nat) : Int) * ((m0 : Int) * A2) = (m : Int) * (((k / 9 + 1 : Nat) : Int) * A2) from by rw [← Int.mul_assoc, Int.mul_comm ((k % 9 + 1 : Nat) : Int), y5, Int.mul_comm ((k / 9 + 1 : Nat) : Int), Int.mul_assoc], show ((k % 9 + 1 : Nat) : Int) * ((m : Int) * C2) = (m : Int) * (((k % 9 + 1 : Nat) : Int) * C2) from by rw [← Int.mul_assoc, Int.mul_comm ((k % 9 + 1 : Nat) : Int), Int.mul_assoc]]
                  exact cg_mul rfl y4)
                rw [hr]
                exact (if_neg h9).trans <| bs rfl <| (if_neg (fun z => c9.mp z hT9)).trans <| (if_neg (fun z => hTm (cm.mp z))).trans <| bs (by rw [hx32]; exact ew) <| bs es <| if_pos (bI_0.mpr hs)
          · refine Or.inl ⟨(), (if_neg h9).trans <| bs rfl <| (if_pos (c9.mpr hT9)).trans <| bs nx1 rfl, by omega, fun n1 h1 h2 h3 => ?_⟩
            by_cases hnm : n1 = m
            · subst hnm; exact hT9 h3.1
            · exact hI n1 h1 (by omega) h3) (by
          intro fu u hI
          have hr : rat (rtQ f b X Y (rk w)) = 81 := rat_81 (fun k hk hkt => by
            unfold rtP at hkt
            rw [Bool.and_eq_true, decide_eq_true_iff] at hkt
            have h5 := (qq _ _).mp (iff0 _ _ hkt.2)
            refine hI.2 (k % 9 + 1) (by omega) (by omega) ⟨?_, ?_⟩
            · rw [← h5]; omega
            · rw [← h5]; omega)
          rw [hr]
          show tb_Dr_giveNumbers_86 N (tl_Dr_giveNumbers_86 N i fu) i (nI w) q (nI 10) S1 = _
          unfold tb_Dr_giveNumbers_86
          exact if_pos (by decide))
        have e4 := hloop 9 1 N () (by omega) (by omega) ⟨by omega, fun n1 h1 h2 => by omega⟩
        exact ⟨S1, bs eo <| (if_neg (by intro z; cases z)).trans <| bs u0 <| bs u1 <| bs htk <| bs e1 <| bs u2 <| bs u3 <| bs e2 <| (if_neg (fun z => hA (zA.mp z))).trans <| (if_neg (fun z => hC (zC.mp z))).trans <| bs e3 e4, k1, D1⟩
end GIV
