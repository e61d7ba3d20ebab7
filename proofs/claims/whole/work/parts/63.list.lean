/-! the facts of a kind that are told, as the class keeps them -/
def En (k n : Nat) : List Nat := if k = 0 then E0 n else if k = 1 then E1 n else if k = 5 then E5 n else if k = 6 then E6 n else if k = 7 then E7 n else E2 k n
def tol (f : Nat) (b : Nat → Bool) (X Y : Nat → Nat → Int) (k w : Nat) : Bool := if k = 0 then hld f b X Y 0 (rk w) else if k = 7 then ctl7 f b X Y w else ctl f b X Y k w
def FL (f n : Nat) (b : Nat → Bool) (X Y : Nat → Nat → Int) (k : Nat) : List Nat := ((En k n).filter (tol f b X Y k)).map (outk f b X Y k)
theorem fm_map {g : Nat → List Nat} {h : Nat → Nat} {lo n : Nat} : (fm g lo n).map h = fm (fun a => (g a).map h) lo n := by
  unfold fm
  rw [List.map_flatMap]
theorem out_id {f : Nat} {b : Nat → Bool} {X Y : Nat → Nat → Int} {k : Nat} (h : k ≠ 8) (l : List Nat) : l.map (outk f b X Y k) = l := by
  have : outk f b X Y k = id := funext fun w => if_neg h
  rw [this, List.map_id]
/-- sets of points as bits -/
def msk (q : Nat → Bool) : Nat → Nat
  | 0 => 0
  | p + 1 => if q p = true then msk q p ||| 2 ^ p else msk q p
theorem msk_tb (q : Nat → Bool) : ∀ (n j : Nat), (msk q n).testBit j = true ↔ (j < n ∧ q j = true) := by
  intro n
  induction n with
  | zero =>
    intro j
    show (0 : Nat).testBit j = true ↔ _
    rw [Nat.zero_testBit]
    constructor
    · intro z; cases z
    · intro z; omega
  | succ n ih =>
    intro j
    show (if q n = true then msk q n ||| 2 ^ n else msk q n).testBit j = true ↔ _
    by_cases hq : q n = true
    · rw [if_pos hq, tb_or, Bool.or_eq_true, ih j, decide_eq_true_iff]
      constructor
      · rintro (⟨h1, h2⟩ | h)
        · exact ⟨by omega, h2⟩
        · subst h; exact ⟨by omega, hq⟩
      · rintro ⟨h1, h2⟩
        by_cases hjn : j = n
        · exact Or.inr hjn.symm
        · exact Or.inl ⟨by omega, h2⟩
    · rw [if_neg hq, ih j]
      constructor
      · rintro ⟨h1, h2⟩; exact ⟨by omega, h2⟩
      · rintro ⟨h1, h2⟩
        by_cases hjn : j = n
        · subst hjn; exact absurd h2 hq
        · exact ⟨by omega, h2⟩
theorem msk_lt (q : Nat → Bool) : ∀ n, n ≤ 10 → msk q n < 1024 := by
  intro n
  induction n with
  | zero => intro _; show 0 < 1024; decide
  | succ n ih =>
    intro h
    show (if q n = true then msk q n ||| 2 ^ n else msk q n) < 1024
    split
    · exact or_lt (ih (by omega)) (by omega)
    · exact ih (by omega)
def v3 (a c d : Nat) : Nat → Nat := rk (w6 a c d 0 0 0)
def v4 (a c d e : Nat) : Nat → Nat := rk (w6 a c d e 0 0)
def lin (f n : Nat) (b : Nat → Bool) (X Y : Nat → Nat → Int) (a c : Nat) : Nat := msk (fun p => decide (p = a ∨ p = c ∨ alk f b X Y 1 (v3 a c p) = true)) n
def rng (f n : Nat) (b : Nat → Bool) (X Y : Nat → Nat → Int) (a c d : Nat) : Nat := msk (fun p => decide (p = a ∨ p = c ∨ p = d ∨ alk f b X Y 5 (v4 a c d p) = true)) n
def rws (f n : Nat) (b : Nat → Bool) (X Y : Nat → Nat → Int) (m : Nat) : Bool := decide (∃ a, a < n ∧ ∃ c, c < n ∧ a < c ∧ ¬ sam f b X Y a c = true ∧ m = lin f n b X Y a c ∧ 3 ≤ plc (sam f b X Y) m n)
def rgs (f n : Nat) (b : Nat → Bool) (X Y : Nat → Nat → Int) (m : Nat) : Bool := decide (∃ a, a < n ∧ ∃ c, c < n ∧ ∃ d, d < n ∧ a < c ∧ c < d ∧ ¬ sam f b X Y a c = true ∧ ¬ sam f b X Y a d = true ∧ ¬ sam f b X Y c d = true ∧ ¬ alk f b X Y 1 (v3 a c d) = true ∧ m = rng f n b X Y a c d ∧ 4 ≤ plc (sam f b X Y) m n)
def RL (f n : Nat) (b : Nat → Bool) (X Y : Nat → Nat → Int) : List Nat := (List.range 1024).filter (rws f n b X Y)
def GL (f n : Nat) (b : Nat → Bool) (X Y : Nat → Nat → Int) : List Nat := (List.range 1024).filter (rgs f n b X Y)
/-- a list of at most c -/
def LRb (S : CS) (k : Nat) (L : List Nat) (c : Nat) : Prop := LR S k L ∧ L.length ≤ c
theorem LRb.kc {S S' : CS} {k c : Nat} {L : List Nat} (h : LRb S k L c) (h1 : cs_items S' k = cs_items S k) (h2 : cs_lsize S' k = cs_lsize S k) : LRb S' k L c := by
  refine ⟨?_, h.2⟩
  have h0 := h.1
  unfold LR at h0 ⊢
  rw [h1, h2]
  exact h0
/-- what the class knows is so -/
def KI (S : CS) (f n : Nat) (b : Nat → Bool) (X Y : Nat → Nat → Int) : Prop := cs_pts S = nI n ∧ DV S ∧ ∃ kn, kn < 4096 ∧ cs_known S = nI kn ∧ (kn.testBit 9 = true → ∀ p, p < n → cs_leads S p = nI (led f b X Y p)) ∧ (∀ k, k < 9 → kn.testBit k = true → LR S k (FL f n b X Y k)) ∧ (kn.testBit 10 = true → LRb S 9 (RL f n b X Y) 45) ∧ (kn.testBit 11 = true → LRb S 10 (GL f n b X Y) 120)
section ANY
variable {N : Nat} {S : CS} {f n : Nat} {b : Nat → Bool} {X Y : Nat → Nat → Int}
def LX (S S' : CS) (k : Nat) : Prop := KC [8, 11, 12, 20, 21] S S' ∧ DV S' ∧ ∀ j, j ≠ k → j ≠ 11 → cs_items S' j = cs_items S j ∧ cs_lsize S' j = cs_lsize S j
theorem BI.lx {k : Nat} {L : List Nat} {S1 : CS} (h : BI S k L S1) : LX S S1 k := ⟨h.1.mo (by decide), h.2.1, fun j hj _ => h.2.2.1 j hj⟩
/-- the part of 'list' behind the leads -/
def lsw (N k : Nat) (S : CS) : Option CS := if k = 0 then t_Fs_listPairs N S else if k = 1 then t_Fs_listTriples N S else if k = 5 then t_Fs_listFours N S else if k = 6 then t_Fs_listMiddles N S else if k = 7 then t_Fs_listAreas N S else if k = 8 then t_Fs_listRatios N S else t_Fs_listTwoPairs N (nI k) S
theorem l_any {k : Nat} (hN : 200 ≤ N) (hd : CD S 0 f n b X Y) (hpt : cs_pts S = nI n) (hl : ∀ p, p < n → cs_leads S p = nI (led f b X Y p)) (hk : k < 9) (hB : BI S k [] S) : ∃ S', lsw N k S = some S' ∧ LX S S' k ∧ LR S' k (FL f n b X Y k) := by
  unfold lsw FL En tol
  by_cases h0 : k = 0
  · subst h0
    obtain ⟨S', e, B⟩ := l_pairs (N := N) (by omega) hd hpt hl hB
    refine ⟨S', (if_pos rfl).trans e, B.lx, ?_⟩
    rw [out_id (by decide), if_pos rfl]
    have : (E0 n).filter (fun w => if 0 = 0 then hld f b X Y 0 (rk w) else if 0 = 7 then ctl7 f b X Y w else ctl f b X Y 0 w) = fm (fun a => fm (fun c => [w6 a c 0 0 0 0].filter (fun w => hld f b X Y 0 (rk w))) (a + 1) n) 0 n := by
      unfold E0
      simp only [fm_filter, if_pos]
    exact this ▸ B.2.2.2
  · rw [if_neg h0, if_neg h0]
    by_cases h1 : k = 1
    · subst h1
      obtain ⟨S', e, B⟩ := l_triples (N := N) (by omega) hd hpt hl hB
      refine ⟨S', (if_pos rfl).trans e, B.lx, ?_⟩
      rw [out_id (by decide), if_pos rfl]
      have : (E1 n).filter (fun w => if 1 = 0 then hld f b X Y 0 (rk w) else if 1 = 7 then ctl7 f b X Y w else ctl f b X Y 1 w) = fm (fun a => fm (fun c => fm (fun d => [w6 a c d 0 0 0].filter (ctl f b X Y 1)) (c + 1) n) (a + 1) n) 0 n := by
        show (E1 n).filter (ctl f b X Y 1) = _
        unfold E1
        simp only [fm_filter]
      exact this ▸ B.2.2.2
    · rw [if_neg h1, if_neg h1]
      by_cases h5 : k = 5
      · subst h5
        obtain ⟨S', e, B⟩ := l_fours (N := N) (by omega) hd hpt hl hB
        refine ⟨S', (if_pos rfl).trans e, B.lx, ?_⟩
        rw [out_id (by decide), if_pos rfl]
        have : (E5 n).filter (fun w => if 5 = 0 then hld f b X Y 0 (rk w) else if 5 = 7 then ctl7 f b X Y w else ctl f b X Y 5 w) = fm (fun a => fm (fun c => fm (fun d => fm (fun e => [w6 a c d e 0 0].filter (ctl f b X Y 5)) (d + 1) n) (c + 1) n) (a + 1) n) 0 n := by
          show (E5 n).filter (ctl f b X Y 5) = _
          unfold E5
          simp only [fm_filter]
        exact this ▸ B.2.2.2
      · rw [if_neg h5, if_neg h5]
        by_cases h6 : k = 6
        · subst h6
          obtain ⟨S', e, B⟩ := l_middles (N := N) (by omega) hd hpt hl hB
          refine ⟨S', (if_pos rfl).trans e, B.lx, ?_⟩
          rw [out_id (by decide), if_pos rfl]
          have : (E6 n).filter (fun w => if 6 = 0 then hld f b X Y 0 (rk w) else if 6 = 7 then ctl7 f b X Y w else ctl f b X Y 6 w) = fm (fun a => fm (fun c => fm (fun d => (if a = c ∨ a = d then [] else [w6 a c d 0 0 0]).filter (ctl f b X Y 6)) (c + 1) n) 0 n) 0 n := by
            show (E6 n).filter (ctl f b X Y 6) = _
            unfold E6
            simp only [fm_filter]
          exact this ▸ B.2.2.2
        · rw [if_neg h6, if_neg h6]
          by_cases h7 : k = 7
          · subst h7
            obtain ⟨S', e, k1, d1, j1, l1⟩ := l_areas (N := N) (by omega) hd hpt hl hB
            refine ⟨S', (if_pos rfl).trans e, ⟨k1, d1, j1⟩, ?_⟩
            rw [out_id (by decide), if_pos rfl]
            exact l1
          · rw [if_neg h7, if_neg h7]
            have ht : (fun w => if k = 0 then hld f b X Y 0 (rk w) else if k = 7 then ctl7 f b X Y w else ctl f b X Y k w) = ctl f b X Y k := by
              funext w
              rw [if_neg h0, if_neg h7]
            have hE : ((E2 k n).filter (ctl f b X Y k)).map (outk f b X Y k) = fm (fun a => fm (fun c => fm (fun d => fm (fun e => ((if k = 2 ∧ (a = d ∨ a = e ∨ c = d ∨ c = e) then [] else [w6 a c d e 0 0]).filter (ctl f b X Y k)).map (outk f b X Y k)) (if d = a then c + 1 else d + 1) n) a n) (a + 1) n) 0 n := by
              unfold E2
              simp only [fm_filter, fm_map]
            have fin : ∀ S' : CS, LR S' k (fm (fun a => fm (fun c => fm (fun d => fm (fun e => ((if k = 2 ∧ (a = d ∨ a = e ∨ c = d ∨ c = e) then [] else [w6 a c d e 0 0]).filter (ctl f b X Y k)).map (outk f b X Y k)) (if d = a then c + 1 else d + 1) n) a n) (a + 1) n) 0 n) → LR S' k (((E2 k n).filter (fun w => if k = 0 then hld f b X Y 0 (rk w) else if k = 7 then ctl7 f b X Y w else ctl f b X Y k w)).map (outk f b X Y k)) := by
              intro S' h
              rw [ht, hE]
              exact h
            by_cases h8 : k = 8
            · subst h8
              obtain ⟨S', e, B⟩ := l_rat (N := N) (by omega) hd hpt hl hB
              exact ⟨S', (if_pos rfl).trans e, B.lx, fin S' B.2.2.2⟩
            · rw [if_neg h8]
              have h4 : npk k = 4 := by
                have : k = 2 ∨ k = 3 ∨ k = 4 := by omega
                rcases this with h | h | h <;> subst h <;> rfl
              obtain ⟨S', e, B⟩ := l_two (N := N) (by omega) hd hpt hl ⟨hk, h7, h8⟩ h4 hB
              exact ⟨S', e, B.lx, fin S' B.2.2.2⟩
theorem lsw_eq {k : Nat} (hk : k < 9) {S7 S8 : CS} (h : lsw N k S7 = some S8) : (if nI k = 0 then ((t_Fs_listPairs N S7).bind fun r11 => tb_Fs_list_119 N (nI k) r11) else (if nI k = 1 then ((t_Fs_listTriples N S7).bind fun r13 => tb_Fs_list_119 N (nI k) r13) else (if nI k = 2 then ((t_Fs_listTwoPairs N (nI k) S7).bind fun r15 => tb_Fs_list_119 N (nI k) r15) else (if nI k = 3 then ((t_Fs_listTwoPairs N (nI k) S7).bind fun r17 => tb_Fs_list_119 N (nI k) r17) else (if nI k = 4 then ((t_Fs_listTwoPairs N (nI k) S7).bind fun r19 => tb_Fs_list_119 N (nI k) r19) else (if nI k = 5 then ((t_Fs_listFours N S7).bind fun r21 => tb_Fs_list_119 N (nI k) r21) else (if nI k = 6 then ((t_Fs_listMiddles N S7).bind fun r23 => tb_Fs_list_119 N (nI k) r23) else (if nI k = 7 then ((t_Fs_listAreas N S7).bind fun r25 => tb_Fs_list_119 N (nI k) r25) else (if nI k = 8 then ((t_Fs_listRatios N S7).bind fun r27 => tb_Fs_list_119 N (nI k) r27) else ((t_Fs_listTwoPairs N (nI k) S7).bind fun r9 => tb_Fs_list_119 N (nI k) r9)))))))))) = some (some k, S8) := by
  have t8 : tb_Fs_list_119 N (nI k) S8 = some (some k, S8) := bs (ta_n hk (by decide)) rfl
  unfold lsw at h
  match k, hk with
  | 0, _ => exact (if_pos rfl).trans <| bs h t8
  | 1, _ => exact (if_neg (by decide)).trans <| (if_pos rfl).trans <| bs h t8
  | 2, _ => exact (if_neg (by decide)).trans <| (if_neg (by decide)).trans <| (if_pos rfl).trans <| bs h t8
  | 3, _ => exact (if_neg (by decide)).trans <| (if_neg (by decide)).trans <| (if_neg (by decide)).trans <| (if_pos rfl).trans <| bs h t8
  | 4, _ => exact (if_neg (by decide)).trans <| (if_neg (by decide)).trans <| (if_neg (by decide)).trans <| (if_neg (by decide)).trans <| (if_pos rfl).trans <| bs h t8
  | 5, _ => exact (if_neg (by decide)).trans <| (if_neg (by decide)).trans <| (if_neg (by decide)).trans <| (if_neg (by decide)).trans <| (if_neg (by decide)).trans <| (if_pos rfl).trans <| bs h t8
  | 6, _ => exact (if_neg (by decide)).trans <| (if_neg (by decide)).trans <| (if_neg (by decide)).trans <| (if_neg (by decide)).trans <| (if_neg (by decide)).trans <| (if_neg (by decide)).trans <| (if_pos rfl).trans <| bs h t8
  | 7, _ => exact (if_neg (by decide)).trans <| (if_neg (by decide)).trans <| (if_neg (by decide)).trans <| (if_neg (by decide)).trans <| (if_neg (by decide)).trans <| (if_neg (by decide)).trans <| (if_neg (by decide)).trans <| (if_pos rfl).trans <| bs h t8
  | 8, _ => exact (if_neg (by decide)).trans <| (if_neg (by decide)).trans <| (if_neg (by decide)).trans <| (if_neg (by decide)).trans <| (if_neg (by decide)).trans <| (if_neg (by decide)).trans <| (if_neg (by decide)).trans <| (if_neg (by decide)).trans <| (if_pos rfl).trans <| bs h t8
  | k + 9, hk => omega
theorem LR.kc {S S' : CS} {k : Nat} {L : List Nat} (h : LR S k L) (h1 : cs_items S' k = cs_items S k) (h2 : cs_lsize S' k = cs_lsize S k) : LR S' k L := by
  unfold LR at h ⊢
  rw [h1, h2]
  exact h
theorem p_list {k : Nat} (hN : 200 ≤ N) (hd : CD S 0 f n b X Y) (hK : KI S f n b X Y) (hk : k < 9) : ∃ S', t_Fs_list N (nI k) S = some (some k, S') ∧ KC [6, 7, 8, 11, 12, 20, 21] S S' ∧ KI S' f n b X Y ∧ LR S' k (FL f n b X Y k) := by
  obtain ⟨hpt, hD, kn, hkn, hkno, hlead, hlist, hrow, hring⟩ := hK
  have e1 := p_isNew (N := N) (c := k) hkno (by omega) (by omega)
  have t8 : ∀ S8 : CS, tb_Fs_list_119 N (nI k) S8 = some (some k, S8) := fun S8 => bs (ta_n hk (by decide)) rfl
  unfold t_Fs_list
  by_cases hb : kn.testBit k = true
  · rw [hb, pop_old hb] at e1
    have kk : KC [6] S (cs_set_known S (nI kn)) := KC.s_known
    have hit : ∀ j, cs_items (cs_set_known S (nI kn)) j = cs_items S j := fun j => by rw [cs_g_items_known]
    have hls : ∀ j, cs_lsize (cs_set_known S (nI kn)) j = cs_lsize S j := fun j => by rw [cs_g_lsize_known]
    refine ⟨_, bs e1 <| (if_pos (show bI (!true) = 0 by decide)).trans (t8 _), kk.mo (by decide), ⟨by rw [cs_g_pts_known]; exact hpt, hD.kc kk (by decide), kn, hkn, cs_g_known_known _ _, fun z p hp => by rw [cs_g_leads_known]; exact hlead z p hp, fun j hj z => (hlist j hj z).kc (hit j) (hls j), fun z => (hrow z).kc (hit 9) (hls 9), fun z => (hring z).kc (hit 10) (hls 10)⟩, (hlist k hk hb).kc (hit k) (hls k)⟩
  · rw [Bool.not_eq_true] at hb
    rw [hb] at e1
    have k1 : KC [6] S (cs_set_known S (nI (kn ||| 2 ^ k))) := KC.s_known
    have hkn1 : kn ||| 2 ^ k < 4096 := Nat.or_lt_two_pow (n := 12) hkn (Nat.pow_lt_pow_right (by decide) (by omega))
    have hb9 : (kn ||| 2 ^ k).testBit 9 = kn.testBit 9 := by rw [tb_or, decide_eq_false (by omega), Bool.or_false]
    obtain ⟨S2, e2, k2, kn2, l2⟩ := p_findLeads (N := N) (kn := kn ||| 2 ^ k) (by omega) (k1.cd (by decide) hd) (by rw [k1.pts (by decide)]; exact hpt) (cs_g_known_known _ _) (by omega) (fun z p hp => by rw [hb9] at z; rw [k1.leads (by decide)]; exact hlead z p hp)
    have k3 : KC [21] S2 (cs_set_lsize S2 (va_up (cs_lsize S2) k 0)) := KC.s_lsize
    generalize hS3 : cs_set_lsize S2 (va_up (cs_lsize S2) k 0) = S3 at k3
    have k03 : KC [6, 7, 21] S S3 := ((k1.mo (by decide)).tr (k2.mo (by decide))).tr (k3.mo (by decide))
    have hls3 : ∀ j, j ≠ k → cs_lsize S3 j = cs_lsize S j := fun j hj => by
      rw [← hS3, cs_g_lsize_lsize, va_up_ne _ _ hj, k2.lsize (by decide), k1.lsize (by decide)]
    have hB3 : BI S3 k [] S3 := ⟨KC.rf, hD.kc k03 (by decide), fun j _ => ⟨rfl, rfl⟩, ⟨by rw [← hS3, cs_g_lsize_lsize, va_up_self, List.length_nil, Nat.zero_min]; rfl, fun i hi => absurd hi (lr_nil k i)⟩⟩
    obtain ⟨S4, e4, x4, l4⟩ := l_any (N := N) (S := S3) (k := k) hN (k03.cd (by decide) hd) (by rw [k03.pts (by decide)]; exact hpt) (fun p hp => by rw [k3.leads (by decide)]; exact l2 p hp) hk hB3
    have kall : KC [6, 7, 8, 11, 12, 20, 21] S S4 := (k03.mo (by decide)).tr (x4.1.mo (by decide))
    have hit : ∀ j, j ≠ k → j ≠ 11 → cs_items S4 j = cs_items S j := fun j h1 h2 => by rw [(x4.2.2 j h1 h2).1, k03.items (by decide)]
    have hls : ∀ j, j ≠ k → j ≠ 11 → cs_lsize S4 j = cs_lsize S j := fun j h1 h2 => by rw [(x4.2.2 j h1 h2).2, hls3 j h1]
    refine ⟨S4, bs e1 <| (if_neg (show ¬ bI (!false) = 0 by decide)).trans <| bs e2 <| bs (ta_n hk (by decide)) <| bs (congrArg some hS3) (lsw_eq hk e4), kall, ⟨by rw [kall.pts (by decide)]; exact hpt, x4.2.1, (kn ||| 2 ^ k) ||| 2 ^ 9, Nat.or_lt_two_pow (n := 12) hkn1 (by decide), ?_, fun _ p hp => ?_, fun j hj z => ?_, fun z => ?_, fun z => ?_⟩, l4⟩
    · rw [x4.1.known (by decide), k3.known (by decide)]
      exact kn2
    · rw [x4.1.leads (by decide), k3.leads (by decide)]
      exact l2 p hp
    · rw [tb_or, tb_or, Bool.or_eq_true, Bool.or_eq_true, decide_eq_true_iff, decide_eq_true_iff] at z
      by_cases hjk : j = k
      · subst hjk; exact l4
      · rcases z with (z | z) | z
        · exact (hlist j hj z).kc (hit j hjk (by omega)) (hls j hjk (by omega))
        · exact absurd z.symm hjk
        · omega
    · rw [tb_or, tb_or, Bool.or_eq_true, Bool.or_eq_true, decide_eq_true_iff, decide_eq_true_iff] at z
      rcases z with (z | z) | z
      · exact (hrow z).kc (hit 9 (by omega) (by decide)) (hls 9 (by omega) (by decide))
      · omega
      · omega
    · rw [tb_or, tb_or, Bool.or_eq_true, Bool.or_eq_true, decide_eq_true_iff, decide_eq_true_iff] at z
      rcases z with (z | z) | z
      · exact (hring z).kc (hit 10 (by omega) (by decide)) (hls 10 (by omega) (by decide))
      · omega
      · omega
end ANY
