/-! whether a number is below a bound, as both sides ask it -/
def inb (x : Int32) (L : Nat) : Bool := decide (¬ x < 0 ∧ ¬ nI L ≤ x)
theorem inb_iff {x : Int32} {L : Nat} (hL : L < 2147483648) : inb x L = true ↔ ∃ j, j < L ∧ x = nI j := by
  unfold inb
  rw [decide_eq_true_iff]
  constructor
  · intro h
    rcases pk_ix x (n := L) (by omega) with h1 | h1 | h1
    · exact absurd h1 h.1
    · exact absurd h1 h.2
    · exact h1
  · rintro ⟨j, hj, rfl⟩
    exact ⟨nI_pos (by omega), nI_ge hj (by omega)⟩
theorem m_isIn {N : Nat} {x : Int32} {L : Nat} (hL : L < 2147483648) : t_Mo_isIn N x 0 (nI L - 1) = some (bI (inb x L)) := by
  have hk : (nI L - 1).toInt = (L : Int) - 1 := by
    cases L with
    | zero => decide
    | succ k =>
      rw [nI_pred, nI_toInt (by omega)]
      omega
  have key : nI L - 1 < x ↔ nI L ≤ x := by
    rw [Int32.lt_iff_toInt_lt, Int32.le_iff_toInt_le, hk, nI_toInt (by omega)]
    omega
  unfold t_Mo_isIn inb
  by_cases h1 : x < 0
  · rw [if_pos h1, decide_eq_false (fun z => z.1 h1)]; rfl
  · rw [if_neg h1]
    by_cases h2 : nI L ≤ x
    · rw [if_pos (key.mpr h2), decide_eq_false (fun z => z.2 h2)]; rfl
    · rw [if_neg (fun z => h2 (key.mp z)), decide_eq_true ⟨h1, h2⟩]; rfl
theorem m_isPoint {N n : Nat} {M : MS} {x : Int32} (hm : ms_many M = nI n) (hn : n ≤ 10) : t_Mo_isPoint N x M = some (bI (inb x n)) := bs (congrArg some hm) <| bs (m_isIn (by omega)) <| bs (bI_tz _) rfl
theorem c_isThere {N n : Nat} {S : CS} {x : Int32} (hp : cs_psize S = nI n) : t_FF_isThere N x S = some (bI (inb x n)) := by
  unfold t_FF_isThere inb
  by_cases h1 : x < 0
  · rw [if_pos h1, decide_eq_false (fun z => z.1 h1)]; rfl
  · rw [if_neg h1]
    refine bs (congrArg some hp) ?_
    by_cases h2 : nI n ≤ x
    · rw [if_pos h2, decide_eq_false (fun z => z.2 h2)]; rfl
    · rw [if_neg h2, decide_eq_true ⟨h1, h2⟩]; rfl
theorem nI_ndk : ∀ k, k < 14 → tb_1 k = nI (ndk k) := by decide
theorem m_needs1 {N k : Nat} (hk : k < 14) : t_Mo_needs1 N (nI k) = some (nI (ndk k)) := by
  unfold t_Mo_needs1
  match k, hk with
  | 0, _ => rfl
  | 1, _ => rfl
  | 2, _ => rfl
  | 3, _ => rfl
  | 4, _ => rfl
  | 5, _ => rfl
  | 6, _ => rfl
  | 7, _ => rfl
  | 8, _ => rfl
  | 9, _ => rfl
  | 10, _ => rfl
  | 11, _ => rfl
  | 12, _ => rfl
  | 13, _ => rfl
  | k + 14, h => omega
theorem ndk_le : ∀ k, k < 14 → ndk k ≤ 4 := by decide
/-- the points that a step is made from are there -/
def stp (d L : Nat) (a b c e : Int32) : Bool := decide ((0 < d → inb a L = true) ∧ (1 < d → inb b L = true) ∧ (2 < d → inb c L = true) ∧ (3 < d → inb e L = true))
section STP
variable {N d L : Nat} {a b c e : Int32}
theorem ck {x : Int32} {y z : Option Int32} (h : inb x L = true → y = z) (h0 : ¬ inb x L = true → some (0 : Int32) = z) : (if x < 0 then some 0 else (if nI L ≤ x then some 0 else y)) = z := by
  unfold inb at h h0
  by_cases h1 : x < 0
  · rw [if_pos h1]; exact h0 (by rw [decide_eq_true_iff]; exact fun z => z.1 h1)
  · rw [if_neg h1]
    by_cases h2 : nI L ≤ x
    · rw [if_pos h2]; exact h0 (by rw [decide_eq_true_iff]; exact fun z => z.2 h2)
    · rw [if_neg h2]; exact h (by rw [decide_eq_true_iff]; exact ⟨h1, h2⟩)
theorem z_f {p : Prop} [Decidable p] (h : ¬ p) : some (0 : Int32) = some (bI (decide p)) := some_f h
theorem c_st4 (hd : d ≤ 4) : tb_FF_isStep_69 N e (nI L) (nI d) = some (bI (decide (3 < d → inb e L = true))) := by
  unfold tb_FF_isStep_69
  by_cases h : d < 4
  · exact (if_pos (nI_lt (b := 4) h (by decide))).trans (some_t (fun z => by omega))
  · refine (if_neg (nI_nlt (b := 4) (by omega) (by omega))).trans (ck (fun z => some_t (fun _ => z)) (fun z => some_f (fun y => z (y (by omega)))))
theorem c_st3 (hd : d ≤ 4) : tb_FF_isStep_53 N c e (nI L) (nI d) = some (bI (decide ((2 < d → inb c L = true) ∧ (3 < d → inb e L = true)))) := by
  unfold tb_FF_isStep_53
  have h4 := c_st4 (N := N) (L := L) (e := e) hd
  by_cases h : d < 3
  · refine (if_pos (nI_lt (b := 3) h (by decide))).trans (h4.trans ?_)
    congr 2
    exact decide_eq_decide.mpr ⟨fun z => ⟨fun y => by omega, z⟩, fun z => z.2⟩
  · refine (if_neg (nI_nlt (b := 3) (by omega) (by omega))).trans (ck (fun z => h4.trans ?_) (fun z => some_f (fun y => z (y.1 (by omega)))))
    congr 2
    exact decide_eq_decide.mpr ⟨fun y => ⟨fun _ => z, y⟩, fun y => y.2⟩
theorem c_st2 (hd : d ≤ 4) : tb_FF_isStep_37 N b c e (nI L) (nI d) = some (bI (decide ((1 < d → inb b L = true) ∧ (2 < d → inb c L = true) ∧ (3 < d → inb e L = true)))) := by
  unfold tb_FF_isStep_37
  have h4 := c_st3 (N := N) (L := L) (c := c) (e := e) hd
  by_cases h : d < 2
  · refine (if_pos (nI_lt (b := 2) h (by decide))).trans (h4.trans ?_)
    congr 2
    exact decide_eq_decide.mpr ⟨fun z => ⟨fun y => by omega, z⟩, fun z => z.2⟩
  · refine (if_neg (nI_nlt (b := 2) (by omega) (by omega))).trans (ck (fun z => h4.trans ?_) (fun z => some_f (fun y => z (y.1 (by omega)))))
    congr 2
    exact decide_eq_decide.mpr ⟨fun y => ⟨fun _ => z, y⟩, fun y => y.2⟩
theorem c_isStep {k : Nat} (hk : k < 14) : t_FF_isStep N (nI k) a b c e (nI L) = some (bI (stp (ndk k) L a b c e)) := by
  have hd := ndk_le k hk
  have h4 := c_st2 (N := N) (L := L) (b := b) (c := c) (e := e) hd
  unfold t_FF_isStep stp
  refine (if_neg (nI_pos (by omega))).trans <| (if_pos (nI_lt (b := 14) hk (by decide))).trans <| bs ((ft_n hk (by decide)).trans (congrArg some (nI_ndk k hk))) ?_
  by_cases h : ndk k < 1
  · refine (if_pos (nI_lt (b := 1) h (by decide))).trans (h4.trans ?_)
    congr 2
    exact decide_eq_decide.mpr ⟨fun z => ⟨fun y => by omega, z⟩, fun z => z.2⟩
  · refine (if_neg (nI_nlt (b := 1) (by omega) (by omega))).trans (ck (fun z => h4.trans ?_) (fun z => some_f (fun y => z (y.1 (by omega)))))
    congr 2
    exact decide_eq_decide.mpr ⟨fun y => ⟨fun _ => z, y⟩, fun y => y.2⟩
theorem c_noStep {x : Int32} (h : inb x 14 = false) : t_FF_isStep N x a b c e (nI L) = some 0 := by
  unfold t_FF_isStep
  unfold inb at h
  by_cases h1 : x < 0
  · exact if_pos h1
  · by_cases h2 : nI 14 ≤ x
    · refine (if_neg h1).trans (if_neg ?_)
      rw [Int32.not_lt]; exact h2
    · rw [decide_eq_true ⟨h1, h2⟩] at h
      cases h
theorem m_ck {x : Int32} {y z : Option Int32} (hL : L < 2147483648) (h : inb x L = true → y = z) (h0 : ¬ inb x L = true → some (0 : Int32) = z) : ((t_Mo_isIn N x 0 (nI L - 1)).bind fun r1 => if r1 = 0 then some 0 else y) = z := by
  refine bs (m_isIn hL) ?_
  by_cases hb : inb x L = true
  · exact (if_neg (fun q => bI_0.mp q hb)).trans (h hb)
  · exact (if_pos (bI_0.mpr hb)).trans (h0 hb)
theorem m_st4 (hL : L < 2147483648) (hd : d ≤ 4) : tb_Mo_areThere_60 N e (nI L) (nI d) = some (bI (decide (3 < d → inb e L = true))) := by
  unfold tb_Mo_areThere_60
  by_cases h : d < 4
  · exact (if_pos (nI_lt (b := 4) h (by decide))).trans (some_t (fun z => by omega))
  · exact (if_neg (nI_nlt (b := 4) (by omega) (by omega))).trans (m_ck hL (fun z => some_t (fun _ => z)) (fun z => some_f (fun y => z (y (by omega)))))
theorem m_st3 (hL : L < 2147483648) (hd : d ≤ 4) : tb_Mo_areThere_42 N c e (nI L) (nI d) = some (bI (decide ((2 < d → inb c L = true) ∧ (3 < d → inb e L = true)))) := by
  unfold tb_Mo_areThere_42
  have h4 := m_st4 (N := N) (L := L) (e := e) hL hd
  by_cases h : d < 3
  · refine (if_pos (nI_lt (b := 3) h (by decide))).trans (h4.trans ?_)
    congr 2
    exact decide_eq_decide.mpr ⟨fun z => ⟨fun y => by omega, z⟩, fun z => z.2⟩
  · refine (if_neg (nI_nlt (b := 3) (by omega) (by omega))).trans (m_ck hL (fun z => h4.trans ?_) (fun z => some_f (fun y => z (y.1 (by omega)))))
    congr 2
    exact decide_eq_decide.mpr ⟨fun y => ⟨fun _ => z, y⟩, fun y => y.2⟩
theorem m_st2 (hL : L < 2147483648) (hd : d ≤ 4) : tb_Mo_areThere_24 N b c e (nI L) (nI d) = some (bI (decide ((1 < d → inb b L = true) ∧ (2 < d → inb c L = true) ∧ (3 < d → inb e L = true)))) := by
  unfold tb_Mo_areThere_24
  have h4 := m_st3 (N := N) (L := L) (c := c) (e := e) hL hd
  by_cases h : d < 2
  · refine (if_pos (nI_lt (b := 2) h (by decide))).trans (h4.trans ?_)
    congr 2
    exact decide_eq_decide.mpr ⟨fun z => ⟨fun y => by omega, z⟩, fun z => z.2⟩
  · refine (if_neg (nI_nlt (b := 2) (by omega) (by omega))).trans (m_ck hL (fun z => h4.trans ?_) (fun z => some_f (fun y => z (y.1 (by omega)))))
    congr 2
    exact decide_eq_decide.mpr ⟨fun y => ⟨fun _ => z, y⟩, fun y => y.2⟩
theorem m_areThere {k : Nat} (hL : L < 2147483648) (hk : k < 14) : t_Mo_areThere N (nI k) a b c e (nI L) = some (bI (stp (ndk k) L a b c e)) := by
  have hd := ndk_le k hk
  have h4 := m_st2 (N := N) (L := L) (b := b) (c := c) (e := e) hL hd
  unfold t_Mo_areThere stp
  refine bs (m_needs1 hk) ?_
  by_cases h : ndk k < 1
  · refine (if_pos (nI_lt (b := 1) h (by decide))).trans (h4.trans ?_)
    congr 2
    exact decide_eq_decide.mpr ⟨fun z => ⟨fun y => by omega, z⟩, fun z => z.2⟩
  · refine (if_neg (nI_nlt (b := 1) (by omega) (by omega))).trans (m_ck hL (fun z => h4.trans ?_) (fun z => some_f (fun y => z (y.1 (by omega)))))
    congr 2
    exact decide_eq_decide.mpr ⟨fun y => ⟨fun _ => z, y⟩, fun y => y.2⟩
end STP
/-! a step is written -/
def srd (d : Nat) (j : Nat) (x : Int32) : Int32 := if d ≤ j then 0 else x
section WRT
variable {N : Nat} {S : CS} {M : MS} {p k : Nat} {a b c e : Int32}
theorem if_sr {α : Type} {d j : Nat} {x : Int32} (F : Int32 → Option α) (hd : d ≤ 4) (hj : j ≤ 4) : (if nI d ≤ nI j then F 0 else F x) = F (srd d j x) := by
  unfold srd
  by_cases h : d ≤ j
  · rw [if_pos (nI_le h (by omega)), if_pos h]
  · rw [if_neg (nI_ge (by omega) (by omega)), if_neg h]
theorem c_write (hp : p < 10) (hk : k < 14) : ∃ S', t_Pl_write N (nI p) (nI k) a b c e S = some S' ∧ KC [3, 4] S S' ∧ cs_kinds S' = upd (cs_kinds S) p (nI k) ∧ cs_srcs S' = upd (upd (upd (upd (cs_srcs S) (4 * p) (srd (ndk k) 0 a)) (4 * p + 1) (srd (ndk k) 1 b)) (4 * p + 2) (srd (ndk k) 2 c)) (4 * p + 3) (srd (ndk k) 3 e) := by
  have hd := ndk_le k hk
  have e4 : nI p * 4 = nI (4 * p) := by rw [show (4 : Int32) = nI 4 from rfl, pk_mul, Nat.mul_comm]
  have ea : ∀ j : Nat, nI (4 * p) + nI j = nI (4 * p + j) := fun j => nI_add _ _
  generalize hS1 : cs_set_kinds S (upd (cs_kinds S) p (nI k)) = S1
  generalize hS2 : cs_set_srcs S1 (upd (cs_srcs S1) (4 * p) (srd (ndk k) 0 a)) = S2
  generalize hS3 : cs_set_srcs S2 (upd (cs_srcs S2) (4 * p + 1) (srd (ndk k) 1 b)) = S3
  generalize hS4 : cs_set_srcs S3 (upd (cs_srcs S3) (4 * p + 2) (srd (ndk k) 2 c)) = S4
  generalize hS5 : cs_set_srcs S4 (upd (cs_srcs S4) (4 * p + 3) (srd (ndk k) 3 e)) = S5
  have k1 : KC [3] S S1 := by rw [← hS1]; exact KC.s_kinds
  have k2 : KC [4] S1 S2 := by rw [← hS2]; exact KC.s_srcs
  have k3 : KC [4] S2 S3 := by rw [← hS3]; exact KC.s_srcs
  have k4 : KC [4] S3 S4 := by rw [← hS4]; exact KC.s_srcs
  have k5 : KC [4] S4 S5 := by rw [← hS5]; exact KC.s_srcs
  have k25 : KC [4] S1 S5 := ((k2.tr k3).tr k4).tr k5
  refine ⟨S5, ?_, (k1.mo (by decide)).tr (k25.mo (by decide)), ?_, ?_⟩
  · have b77 : (fun w => tb_Pl_write_77 N e (nI (ndk k)) (nI (4 * p)) (nI (4 * p) + 2) w S3) (srd (ndk k) 2 c) = some S5 := by
      show tb_Pl_write_77 N e (nI (ndk k)) (nI (4 * p)) (nI (4 * p) + 2) (srd (ndk k) 2 c) S3 = _
      unfold tb_Pl_write_77
      refine bs (x := upd (cs_srcs S3) (4 * p + 2) (srd (ndk k) 2 c)) ?_ <| bs (congrArg some hS4) <| (if_sr (j := 3) (fun w => (twi 40 (cs_srcs S4) (nI (4 * p) + 3) w).bind fun F3 => (some (cs_set_srcs S4 F3)).bind fun S3 => some S3) hd (by decide)).trans ?_
      · rw [show (2 : Int32) = nI 2 from rfl, ea]; exact twi_n (by omega) (by decide)
      · refine bs (x := upd (cs_srcs S4) (4 * p + 3) (srd (ndk k) 3 e)) ?_ <| bs (congrArg some hS5) rfl
        rw [show (3 : Int32) = nI 3 from rfl, ea]; exact twi_n (by omega) (by decide)
    have b56 : (fun w => tb_Pl_write_56 N c e (nI (ndk k)) (nI (4 * p)) (nI (4 * p) + 1) w S2) (srd (ndk k) 1 b) = some S5 := by
      show tb_Pl_write_56 N c e (nI (ndk k)) (nI (4 * p)) (nI (4 * p) + 1) (srd (ndk k) 1 b) S2 = _
      unfold tb_Pl_write_56
      refine bs (x := upd (cs_srcs S2) (4 * p + 1) (srd (ndk k) 1 b)) ?_ <| bs (congrArg some hS3) <| (if_sr (j := 2) (fun w => tb_Pl_write_77 N e (nI (ndk k)) (nI (4 * p)) (nI (4 * p) + 2) w S3) hd (by decide)).trans b77
      rw [show (1 : Int32) = nI 1 from rfl, ea]; exact twi_n (by omega) (by decide)
    have b35 : (fun w => tb_Pl_write_35 N b c e (nI (ndk k)) (nI (4 * p)) (nI (4 * p)) w S1) (srd (ndk k) 0 a) = some S5 := by
      show tb_Pl_write_35 N b c e (nI (ndk k)) (nI (4 * p)) (nI (4 * p)) (srd (ndk k) 0 a) S1 = _
      unfold tb_Pl_write_35
      exact bs (twi_n (by omega) (by decide)) <| bs (congrArg some hS2) <| (if_sr (j := 1) (fun w => tb_Pl_write_56 N c e (nI (ndk k)) (nI (4 * p)) (nI (4 * p) + 1) w S2) hd (by decide)).trans b56
    unfold t_Pl_write
    exact bs ((ft_n hk (by decide)).trans (congrArg some (nI_ndk k hk))) <| bs (congrArg some e4) <| bs (twi_n hp (by decide)) <| bs (congrArg some hS1) <| (if_sr (j := 0) (fun w => tb_Pl_write_35 N b c e (nI (ndk k)) (nI (4 * p)) (nI (4 * p)) w S1) hd (by decide)).trans b35
  · rw [k25.kinds (by decide), ← hS1, cs_g_kinds_kinds]
  · rw [← hS5, cs_g_srcs_srcs, ← hS4, cs_g_srcs_srcs, ← hS3, cs_g_srcs_srcs, ← hS2, cs_g_srcs_srcs, k1.srcs (by decide)]
theorem m_setStep (hp : p < 10) (hk : k < 14) : ∃ M', t_Mo_setStep N (nI p) (nI k) a b c e M = some M' ∧ KM [1, 2] M M' ∧ ms_kindOf M' = upd (ms_kindOf M) p (nI k) ∧ ms_need M' = upd (upd (upd (upd (ms_need M) (4 * p) (srd (ndk k) 0 a)) (4 * p + 1) (srd (ndk k) 1 b)) (4 * p + 2) (srd (ndk k) 2 c)) (4 * p + 3) (srd (ndk k) 3 e) := by
  have hd := ndk_le k hk
  have e4 : 4 * nI p = nI (4 * p) := by rw [show (4 : Int32) = nI 4 from rfl, pk_mul]
  have ea : ∀ j : Nat, nI (4 * p) + nI j = nI (4 * p + j) := fun j => nI_add _ _
  generalize hM1 : ms_set_kindOf M (upd (ms_kindOf M) p (nI k)) = M1
  generalize hM2 : ms_set_need M1 (upd (ms_need M1) (4 * p) (srd (ndk k) 0 a)) = M2
  generalize hM3 : ms_set_need M2 (upd (ms_need M2) (4 * p + 1) (srd (ndk k) 1 b)) = M3
  generalize hM4 : ms_set_need M3 (upd (ms_need M3) (4 * p + 2) (srd (ndk k) 2 c)) = M4
  generalize hM5 : ms_set_need M4 (upd (ms_need M4) (4 * p + 3) (srd (ndk k) 3 e)) = M5
  have k1 : KM [1] M M1 := by rw [← hM1]; exact KM.s_kindOf
  have k2 : KM [2] M1 M2 := by rw [← hM2]; exact KM.s_need
  have k3 : KM [2] M2 M3 := by rw [← hM3]; exact KM.s_need
  have k4 : KM [2] M3 M4 := by rw [← hM4]; exact KM.s_need
  have k5 : KM [2] M4 M5 := by rw [← hM5]; exact KM.s_need
  have k25 : KM [2] M1 M5 := ((k2.tr k3).tr k4).tr k5
  refine ⟨M5, ?_, (k1.mo (by decide)).tr (k25.mo (by decide)), ?_, ?_⟩
  · have b74 : (fun w => tb_Mo_setStep_74 N (nI p) e (nI (ndk k)) ((4 * nI p) + 2) w M3) (srd (ndk k) 2 c) = some M5 := by
      show tb_Mo_setStep_74 N (nI p) e (nI (ndk k)) ((4 * nI p) + 2) (srd (ndk k) 2 c) M3 = _
      unfold tb_Mo_setStep_74
      refine bs (x := upd (ms_need M3) (4 * p + 2) (srd (ndk k) 2 c)) ?_ <| bs (congrArg some hM4) <| (if_sr (j := 3) (fun w => (twi 40 (ms_need M4) ((4 * nI p) + 3) w).bind fun F3 => (some (ms_set_need M4 F3)).bind fun S3 => some S3) hd (by decide)).trans ?_
      · rw [e4, show (2 : Int32) = nI 2 from rfl, ea]; exact twi_n (by omega) (by decide)
      · refine bs (x := upd (ms_need M4) (4 * p + 3) (srd (ndk k) 3 e)) ?_ <| bs (congrArg some hM5) rfl
        rw [e4, show (3 : Int32) = nI 3 from rfl, ea]; exact twi_n (by omega) (by decide)
    have b52 : (fun w => tb_Mo_setStep_52 N (nI p) c e (nI (ndk k)) ((4 * nI p) + 1) w M2) (srd (ndk k) 1 b) = some M5 := by
      show tb_Mo_setStep_52 N (nI p) c e (nI (ndk k)) ((4 * nI p) + 1) (srd (ndk k) 1 b) M2 = _
      unfold tb_Mo_setStep_52
      refine bs (x := upd (ms_need M2) (4 * p + 1) (srd (ndk k) 1 b)) ?_ <| bs (congrArg some hM3) <| (if_sr (j := 2) (fun w => tb_Mo_setStep_74 N (nI p) e (nI (ndk k)) ((4 * nI p) + 2) w M3) hd (by decide)).trans b74
      rw [e4, show (1 : Int32) = nI 1 from rfl, ea]; exact twi_n (by omega) (by decide)
    have b30 : (fun w => tb_Mo_setStep_30 N (nI p) b c e (nI (ndk k)) (4 * nI p) w M1) (srd (ndk k) 0 a) = some M5 := by
      show tb_Mo_setStep_30 N (nI p) b c e (nI (ndk k)) (4 * nI p) (srd (ndk k) 0 a) M1 = _
      unfold tb_Mo_setStep_30
      refine bs (x := upd (ms_need M1) (4 * p) (srd (ndk k) 0 a)) ?_ <| bs (congrArg some hM2) <| (if_sr (j := 1) (fun w => tb_Mo_setStep_52 N (nI p) c e (nI (ndk k)) ((4 * nI p) + 1) w M2) hd (by decide)).trans b52
      rw [e4]; exact twi_n (by omega) (by decide)
    unfold t_Mo_setStep
    exact bs (m_needs1 hk) <| bs (twi_n hp (by decide)) <| bs (congrArg some hM1) <| (if_sr (j := 0) (fun w => tb_Mo_setStep_30 N (nI p) b c e (nI (ndk k)) (4 * nI p) w M1) hd (by decide)).trans b30
  · rw [k25.kindOf (by decide), ← hM1, ms_g_kindOf_kindOf]
  · rw [← hM5, ms_g_need_need, ← hM4, ms_g_need_need, ← hM3, ms_g_need_need, ← hM2, ms_g_need_need, k1.need (by decide)]
end WRT
