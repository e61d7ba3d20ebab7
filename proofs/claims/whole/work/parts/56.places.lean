/-! what is known; the class's leads -/
theorem p_isNew {N : Nat} {S : CS} {kn c : Nat} (hk : cs_known S = nI kn) (hkn : kn < 2147483648) (hc : c < 31) : t_Fs_isNew N (nI c) S = some (bI (!kn.testBit c), cs_set_known S (nI (kn ||| 2 ^ c))) := by
  have e : some (cs_set_known S (cs_known S ||| (1 : Int32) <<< (nI c &&& 31))) = some (cs_set_known S (nI (kn ||| 2 ^ c))) := by rw [hk, sh_one c hc, nI_or]
  unfold t_Fs_isNew tb_Fs_isNew_16
  refine bs (congrArg some hk) ?_
  cases hb : kn.testBit c with
  | true =>
    refine (if_neg (fun z => (bit_0 hkn hc).mp z hb)).trans ?_
    exact bs rfl (bs e (bs tz_0 rfl))
  | false =>
    refine (if_pos ((bit_0 hkn hc).mpr (by rw [hb]; decide))).trans ?_
    exact bs rfl (bs e (bs tz_1 rfl))
section LDS
variable {N : Nat} {S : CS} {f n : Nat} {b : Nat → Bool} {X Y : Nat → Nat → Int}
/-- SAME of two points, as the class asks it -/
theorem p_same {i p q : Nat} (hN : 25 ≤ N) (hd : CD S i f n b X Y) (hp : p < n) (hq : q < n) (hne : q ≠ p) : ((t_FF_pack N (nI q) (nI p) 0).bind fun r4 => t_Dr_isShown N i 0 r4 S) = some (bI (sam f b X Y q p)) := by
  have hn := hd.2.1
  have hw := w6_lt (a := q) (b := p) (c := 0) (d := 0) (e := 0) (f := 0) (by omega) (by omega) (by omega) (by omega) (by omega) (by omega)
  have e := p_isShown (N := N) (k := 0) (w := w6 q p 0 0 0 0) hN hd (by decide) (by omega) (by
    intro j hj
    match j, hj with
    | 0, _ => rw [rk_0 (by omega)]; exact hq
    | 1, _ => rw [rk_1 (by omega) (by omega)]; exact hp
    | j + 2, h => exact absurd h (by simp [npk]))
  refine bs (p_pack (c := 0) (by omega) (by omega) (by omega)) (e.trans ?_)
  rw [sam_ne hne]
  unfold sme
  have : (fun g => sho (X g) (Y g) 0 (rk (w6 q p 0 0 0 0)) (rk (w6 q p 0 0 0 0) 4) (rk (w6 q p 0 0 0 0) 5)) = fun g => decide (X g q = X g p ∧ Y g q = Y g p) := by
    funext g
    show decide (_ ∧ _) = _
    rw [rk_0 (by omega), rk_1 (by omega) (by omega)]
  rw [this]
def LI (S : CS) (f : Nat) (b : Nat → Bool) (X Y : Nat → Nat → Int) (p : Nat) (S1 : CS) : Prop := KC [7] S S1 ∧ ∀ q, q < p → cs_leads S1 q = nI (led f b X Y q)
def LJ (S : CS) (f : Nat) (b : Nat → Bool) (X Y : Nat → Nat → Int) (p q : Nat) (S1 : CS) : Prop := LI S f b X Y p S1 ∧ ((cs_leads S1 p = nI p ∧ ∀ j, j < q → ¬ sam f b X Y j p = true) ∨ (cs_leads S1 p = nI (led f b X Y p) ∧ led f b X Y p < p))
theorem fl_loop (hN : 25 ≤ N) (hd : CD S 0 f n b X Y) (hpt : cs_pts S = nI n) : ∃ S', tl_Fs_findLeads_12 N N 0 S = some S' ∧ KC [7] S S' ∧ ∀ p, p < n → cs_leads S' p = nI (led f b X Y p) := by
  have hn := hd.2.1
  have main := up_loop (L := fun fu p s => tl_Fs_findLeads_12 N fu (nI p) s) (e := n) (I := fun p S1 => LI S f b X Y p S1) (Q := fun o => ∃ S', o = some S' ∧ LI S f b X Y n S') (by
    intro fu p S1 hp hI
    refine Or.inl ?_
    have inner := up_loop (L := fun fu2 q s => tl_Fs_findLeads_29 N (tl_Fs_findLeads_12 N fu) fu2 (nI p) (nI q) s) (e := p) (I := fun q S2 => LJ S f b X Y p q S2) (Q := fun o => ∃ S', o = tl_Fs_findLeads_12 N fu (nI (p + 1)) S' ∧ LI S f b X Y (p + 1) S') (by
      intro fu2 q S2 hq hJ
      obtain ⟨⟨hK, hL⟩, hc⟩ := hJ
      have hle : ¬ nI p ≤ nI q := nI_ge hq (by omega)
      have ht : ta 16 (cs_leads S2) (nI p) = some (cs_leads S2 p) := ta_n (by omega) (by decide)
      have nq : some (nI q + 1) = some (nI (q + 1)) := by rw [nI_1]
      have np : some (nI p + 1) = some (nI (p + 1)) := by rw [nI_1]
      have hs := p_same (N := N) (i := 0) hN (hK.cd (by decide) hd) hp (show q < n by omega) (by omega)
      rcases hc with ⟨h1, h2⟩ | ⟨h1, h2⟩
      · obtain ⟨r4, e4, e5⟩ : ∃ r4, t_FF_pack N (nI q) (nI p) 0 = some r4 ∧ t_Dr_isShown N 0 0 r4 S2 = some (bI (sam f b X Y q p)) := by
          have e4 := p_pack (N := N) (a := q) (b := p) (c := 0) (by omega) (by omega) (by omega)
          refine ⟨_, e4, ?_⟩
          rw [show (0 : Int32) = nI 0 from rfl, e4] at hs
          exact hs
        cases hsm : sam f b X Y q p with
        | false =>
          refine Or.inl ⟨S2, ?_, ⟨hK, hL⟩, Or.inl ⟨h1, fun j hj => ?_⟩⟩
          · show tb_Fs_findLeads_29 N (tl_Fs_findLeads_12 N fu) (tl_Fs_findLeads_29 N (tl_Fs_findLeads_12 N fu) fu2) (nI p) (nI q) S2 = _
            rw [hsm] at e5
            unfold tb_Fs_findLeads_29 tb_Fs_findLeads_68
            exact (if_neg hle).trans (bs (ht.trans (congrArg some h1)) ((if_pos rfl).trans (bs e4 (bs e5 ((if_pos (by decide)).trans (bs nq rfl))))))
          · by_cases hjq : j = q
            · subst hjq; rw [hsm]; decide
            · exact h2 j (by omega)
        | true =>
          have hled : led f b X Y p = q := by
            have h3 := led_min hsm
            by_cases h4 : led f b X Y p < q
            · exact absurd led_sam (h2 _ h4)
            · omega
          refine Or.inl ⟨cs_set_leads S2 (upd (cs_leads S2) p (nI q)), ?_, ⟨hK.tr KC.s_leads, fun j hj => ?_⟩, Or.inr ⟨?_, by omega⟩⟩
          · show tb_Fs_findLeads_29 N (tl_Fs_findLeads_12 N fu) (tl_Fs_findLeads_29 N (tl_Fs_findLeads_12 N fu) fu2) (nI p) (nI q) S2 = _
            rw [hsm] at e5
            unfold tb_Fs_findLeads_29 tb_Fs_findLeads_68
            exact (if_neg hle).trans (bs (ht.trans (congrArg some h1)) ((if_pos rfl).trans (bs e4 (bs e5 ((if_neg (by decide)).trans (bs (twi_n (by omega) (by decide)) (bs rfl (bs nq rfl))))))))
          · rw [cs_g_leads_leads, pk_un (by omega)]
            exact hL j hj
          · rw [cs_g_leads_leads, pk_us, hled]
      · refine Or.inr ⟨S2, ?_, hK, fun j hj => ?_⟩
        · show tb_Fs_findLeads_29 N (tl_Fs_findLeads_12 N fu) (tl_Fs_findLeads_29 N (tl_Fs_findLeads_12 N fu) fu2) (nI p) (nI q) S2 = _
          unfold tb_Fs_findLeads_29 tb_Fs_findLeads_74
          exact (if_neg hle).trans (bs ht ((if_neg (by rw [h1]; intro z; have := (nI_eq (by omega) (by omega)).mp z; omega)).trans (bs np rfl)))
        · by_cases hjp : j = p
          · subst hjp; exact h1
          · exact hL j (by omega)) (by
      intro fu2 S2 hJ
      obtain ⟨⟨hK, hL⟩, hc⟩ := hJ
      refine ⟨S2, ?_, hK, fun j hj => ?_⟩
      · show tb_Fs_findLeads_29 N (tl_Fs_findLeads_12 N fu) (tl_Fs_findLeads_29 N (tl_Fs_findLeads_12 N fu) fu2) (nI p) (nI p) S2 = _
        unfold tb_Fs_findLeads_29 tb_Fs_findLeads_74
        exact (if_pos (nI_le (Nat.le_refl p) (by omega))).trans (bs (by rw [nI_1]) rfl)
      · by_cases hjp : j = p
        · subst hjp
          rcases hc with ⟨h1, h2⟩ | ⟨h1, h2⟩
          · have h3 := led_le (f := f) (b := b) (X := X) (Y := Y) (p := j)
            have h4 : led f b X Y j = j := by
              by_cases h5 : led f b X Y j < j
              · exact absurd led_sam (h2 _ h5)
              · omega
            rw [h4]; exact h1
          · exact h1
        · exact hL j (by omega))
    obtain ⟨S3, e3, I3⟩ := inner p 0 N (cs_set_leads S1 (upd (cs_leads S1) p (nI p))) (by omega) (by omega) ⟨⟨hI.1.tr KC.s_leads, fun j hj => by rw [cs_g_leads_leads, pk_un (by omega)]; exact hI.2 j hj⟩, Or.inl ⟨by rw [cs_g_leads_leads, pk_us], fun j hj => by omega⟩⟩
    refine ⟨S3, ?_, I3⟩
    show tb_Fs_findLeads_12 N (tl_Fs_findLeads_12 N fu) (nI p) S1 = _
    unfold tb_Fs_findLeads_12
    exact bs rfl ((if_neg (by rw [hI.1.pts (by decide), hpt]; exact nI_ge hp (by omega))).trans (bs (twi_n (by omega) (by decide)) (bs rfl e3)))) (by
    intro fu S1 hI
    refine ⟨S1, ?_, hI⟩
    show tb_Fs_findLeads_12 N (tl_Fs_findLeads_12 N fu) (nI n) S1 = _
    unfold tb_Fs_findLeads_12
    exact bs rfl (if_pos (by rw [hI.1.pts (by decide), hpt]; exact nI_le (Nat.le_refl n) (by omega))))
  obtain ⟨S', e, I⟩ := main n 0 N S (by omega) (by omega) ⟨KC.rf, fun q hq => by omega⟩
  exact ⟨S', e, I.1, I.2⟩
theorem p_findLeads {kn : Nat} (hN : 25 ≤ N) (hd : CD S 0 f n b X Y) (hpt : cs_pts S = nI n) (hk : cs_known S = nI kn) (hkn : kn < 2147483648) (hl : kn.testBit 9 = true → ∀ p, p < n → cs_leads S p = nI (led f b X Y p)) : ∃ S', t_Fs_findLeads N S = some S' ∧ KC [6, 7] S S' ∧ cs_known S' = nI (kn ||| 2 ^ 9) ∧ ∀ p, p < n → cs_leads S' p = nI (led f b X Y p) := by
  have e := p_isNew (N := N) (c := 9) hk hkn (by decide)
  unfold t_Fs_findLeads
  cases hb : kn.testBit 9 with
  | true =>
    rw [hb] at e
    refine ⟨_, bs e ((if_pos (show bI (!true) = 0 by decide)).trans rfl), KC.s_known.mo (by decide), cs_g_known_known _ _, fun p hp => ?_⟩
    rw [cs_g_leads_known]
    exact hl hb p hp
  | false =>
    rw [hb] at e
    obtain ⟨S', e2, k2, l2⟩ := fl_loop (N := N) (S := cs_set_known S (nI (kn ||| 2 ^ 9))) hN ((KC.s_known (v := nI (kn ||| 2 ^ 9))).cd (by decide) hd) (by rw [cs_g_pts_known, hpt])
    refine ⟨S', bs e ((if_neg (show ¬ bI (!false) = 0 by decide)).trans e2), (KC.s_known.mo (by decide)).tr (k2.mo (by decide)), ?_, l2⟩
    rw [k2.known (by decide), cs_g_known_known]
end LDS
/-! how many places the points of a set have -/
def pop (w : Nat) : Nat := stn (fun j => w.testBit j) 10
theorem bc_all : ∀ l, l < 1024 → t_In_bitCount 0 (nI l) = some (nI (pop l)) := by decide +kernel
theorem p_bitCount {N l : Nat} (h : l < 1024) : t_In_bitCount N (nI l) = some (nI (pop l)) := bc_all l h
theorem stn_same {c d : Nat → Bool} : ∀ (m : Nat), (∀ j, j < m → c j = d j) → stn c m = stn d m := by
  intro m
  induction m with
  | zero => intro _; rfl
  | succ m ih =>
    intro h
    show (if c m = true then stn c m + 1 else stn c m) = (if d m = true then stn d m + 1 else stn d m)
    rw [ih (fun j hj => h j (by omega)), h m (by omega)]
theorem stn_one {c d : Nat → Bool} {k : Nat} (hc : ¬ c k = true) (hd : d k = true) : ∀ (m : Nat), k < m → (∀ j, j < m → j ≠ k → c j = d j) → stn d m = stn c m + 1 := by
  intro m
  induction m with
  | zero => intro h; omega
  | succ m ih =>
    intro h h2
    show (if d m = true then stn d m + 1 else stn d m) = (if c m = true then stn c m + 1 else stn c m) + 1
    by_cases hkm : k = m
    · subst hkm
      rw [if_pos hd, if_neg hc, stn_same k (fun j hj => h2 j (by omega) (by omega))]
    · rw [ih (by omega) (fun j hj hj2 => h2 j (by omega) hj2), h2 m (by omega) (fun z => hkm z.symm)]
      split <;> rfl
theorem tb_or {l k j : Nat} : (l ||| 2 ^ k).testBit j = (l.testBit j || decide (k = j)) := by
  rw [Nat.testBit_or, Nat.testBit_two_pow]
theorem or_lt {l k : Nat} (hl : l < 1024) (hk : k < 10) : l ||| 2 ^ k < 1024 := Nat.or_lt_two_pow (n := 10) hl (Nat.pow_lt_pow_right (by decide) hk)
theorem pop_new {l k : Nat} (hk : k < 10) (h : ¬ l.testBit k = true) : pop (l ||| 2 ^ k) = pop l + 1 := by
  refine stn_one (k := k) h ?_ 10 hk (fun j _ hj => ?_)
  · rw [tb_or, decide_eq_true rfl, Bool.or_true]
  · show l.testBit j = (l ||| 2 ^ k).testBit j
    rw [tb_or, decide_eq_false (fun z => hj z.symm), Bool.or_false]
theorem pop_old {l k : Nat} (h : l.testBit k = true) : l ||| 2 ^ k = l := by
  apply Nat.eq_of_testBit_eq
  intro j
  rw [tb_or]
  by_cases hj : k = j
  · subst hj; rw [h]; rfl
  · rw [decide_eq_false hj, Bool.or_false]
/-- of the first p points how many are in the set w, and no point of it before is at their place -/
def plc (s : Nat → Nat → Bool) (w : Nat) : Nat → Nat
  | 0 => 0
  | p + 1 => if w.testBit p = true ∧ ∀ a, a < p → w.testBit a = true → ¬ s a p = true then plc s w p + 1 else plc s w p
section PLC
variable {N : Nat} {S : CS} {M : MS} {f n w : Nat} {b : Nat → Bool} {X Y : Nat → Nat → Int}
theorem p_placesOf (hN : 25 ≤ N) (hn : n ≤ 10) (hpt : cs_pts S = nI n) (hl : ∀ p, p < n → cs_leads S p = nI (led f b X Y p)) (hw : w < 2147483648) : t_Fs_placesOf N (nI w) S = some (nI (plc (sam f b X Y) w n)) := by
  have main := up_loop (σ := Nat) (L := fun fu p l => tl_Fs_placesOf_4 N fu (nI w) (nI l) (nI p) S) (e := n) (I := fun p l => l < 1024 ∧ pop l = plc (sam f b X Y) w p ∧ ∀ j, l.testBit j = true ↔ ∃ a, a < p ∧ w.testBit a = true ∧ led f b X Y a = j) (Q := fun o => o = some (nI (plc (sam f b X Y) w n))) (by
    intro fu p l hp hI
    obtain ⟨hl10, hpop, hbits⟩ := hI
    refine Or.inl ?_
    have hle : ¬ cs_pts S ≤ nI p := by rw [hpt]; exact nI_ge hp (by omega)
    have nx1 : some (nI p + 1) = some (nI (p + 1)) := by rw [nI_1]
    have hled := led_le (f := f) (b := b) (X := X) (Y := Y) (p := p)
    show ∃ s', tb_Fs_placesOf_4 N (tl_Fs_placesOf_4 N fu) (nI w) (nI l) (nI p) S = _ ∧ _
    unfold tb_Fs_placesOf_4 tb_Fs_placesOf_32
    by_cases hb : w.testBit p = true
    · refine ⟨l ||| 2 ^ (led f b X Y p), bs rfl ((if_neg hle).trans ((if_pos ((bit_1 hw (by omega)).mpr hb)).trans (bs (ta_n (by omega) (by decide)) (bs ?_ (bs nx1 rfl))))), or_lt hl10 (by omega), ?_, fun j => ?_⟩
      · rw [hl p hp, sh_one _ (by omega), nI_or]
      · show pop _ = if w.testBit p = true ∧ (∀ a, a < p → w.testBit a = true → ¬ sam f b X Y a p = true) then plc (sam f b X Y) w p + 1 else plc (sam f b X Y) w p
        by_cases hold : l.testBit (led f b X Y p) = true
        · obtain ⟨a, h1, h2, h3⟩ := (hbits _).mp hold
          rw [pop_old hold, hpop, if_neg (fun z => z.2 a h1 h2 (led_eq.mp h3))]
        · rw [pop_new (by omega) hold, hpop, if_pos ⟨hb, fun a h1 h2 h3 => hold ((hbits _).mpr ⟨a, h1, h2, led_eq.mpr h3⟩)⟩]
      · rw [tb_or, Bool.or_eq_true, hbits j, decide_eq_true_iff]
        constructor
        · rintro (⟨a, h1, h2, h3⟩ | h)
          · exact ⟨a, by omega, h2, h3⟩
          · exact ⟨p, by omega, hb, h⟩
        · rintro ⟨a, h1, h2, h3⟩
          by_cases hap : a = p
          · subst hap; exact Or.inr h3
          · exact Or.inl ⟨a, by omega, h2, h3⟩
    · refine ⟨l, bs rfl ((if_neg hle).trans ((if_neg (fun z => hb ((bit_1 hw (by omega)).mp z))).trans (bs nx1 rfl))), hl10, ?_, fun j => ?_⟩
      · show pop _ = if w.testBit p = true ∧ (∀ a, a < p → w.testBit a = true → ¬ sam f b X Y a p = true) then plc (sam f b X Y) w p + 1 else plc (sam f b X Y) w p
        rw [hpop, if_neg (fun z => hb z.1)]
      · rw [hbits j]
        constructor
        · rintro ⟨a, h1, h2, h3⟩
          exact ⟨a, by omega, h2, h3⟩
        · rintro ⟨a, h1, h2, h3⟩
          by_cases hap : a = p
          · subst hap; exact absurd h2 hb
          · exact ⟨a, by omega, h2, h3⟩) (by
    intro fu l hI
    show tb_Fs_placesOf_4 N (tl_Fs_placesOf_4 N fu) (nI w) (nI l) (nI n) S = _
    unfold tb_Fs_placesOf_4
    exact bs rfl ((if_pos (by rw [hpt]; exact nI_le (Nat.le_refl n) (by omega))).trans (bs ((p_bitCount hI.1).trans (by rw [hI.2.1])) rfl)))
  refine main n 0 N 0 (by omega) (by omega) ⟨by decide, show pop 0 = 0 by decide, fun j => ?_⟩
  rw [Nat.zero_testBit]
  constructor
  · intro z; cases z
  · rintro ⟨a, h, _⟩; omega
theorem m_count (hN : 25 ≤ N) (hn : n ≤ 10) (hmany : ms_many M = nI n) (hs : ∀ a c, a < n → c < n → ms_same M (10 * a + c) = bI (sam f b X Y a c)) (hw : w < 2147483648) : tl_Mo_places_8 N N (nI w) 0 0 M = some (nI (plc (sam f b X Y) w n), M) := by
  have main := up_loop (σ := Nat) (L := fun fu p l => tl_Mo_places_8 N fu (nI w) (nI l) (nI p) M) (e := n) (I := fun p l => l = plc (sam f b X Y) w p) (Q := fun o => o = some (nI (plc (sam f b X Y) w n), M)) (by
    intro fu p l hp hI
    subst hI
    refine Or.inl ⟨plc (sam f b X Y) w (p + 1), ?_, rfl⟩
    have hle : ¬ ms_many M ≤ nI p := by rw [hmany]; exact nI_ge hp (by omega)
    have inner := up_loop (σ := Bool) (L := fun fu2 a q => tl_Mo_places_35 N (tl_Mo_places_8 N fu) fu2 (nI w) (nI (plc (sam f b X Y) w p)) (nI p) (bI q) (nI a) M) (e := p) (I := fun a q => q = true ↔ (w.testBit p = true ∧ ∀ a', a' < a → w.testBit a' = true → ¬ sam f b X Y a' p = true)) (Q := fun o => o = tl_Mo_places_8 N fu (nI w) (nI (plc (sam f b X Y) w (p + 1))) (nI (p + 1)) M) (by
      intro fu2 a q ha hI2
      have hle2 : ¬ nI p ≤ nI a := nI_ge ha (by omega)
      have na : some (nI a + 1) = some (nI (a + 1)) := by rw [nI_1]
      have e10 : (10 : Int32) * nI a + nI p = nI (10 * a + p) := by rw [show (10 : Int32) = nI 10 from rfl, pk_mul, nI_add]
      have hsm : ta 100 (ms_same M) ((10 : Int32) * nI a + nI p) = some (bI (sam f b X Y a p)) := by rw [e10, ta_n (by omega) (by decide), hs a p (by omega) hp]
      show (∃ s', tb_Mo_places_35 N (tl_Mo_places_8 N fu) (tl_Mo_places_35 N (tl_Mo_places_8 N fu) fu2) (nI w) (nI (plc (sam f b X Y) w p)) (nI p) (bI q) (nI a) M = _ ∧ _) ∨ _
      refine Or.inl ?_
      unfold tb_Mo_places_35 tb_Mo_places_75 tb_Mo_places_71 tb_Mo_places_76
      by_cases hq : q = true
      · have hI3 := hI2.mp hq
        by_cases hb : w.testBit a = true
        · by_cases hss : sam f b X Y a p = true
          · refine ⟨false, (if_neg hle2).trans ((if_neg (fun z => bI_0.mp z hq)).trans ((if_pos ((bit_1 hw (by omega)).mpr hb)).trans (bs hsm ((if_neg (fun z => bI_0.mp z hss)).trans (bs na rfl))))), ?_⟩
            exact ⟨fun z => (by cases z), fun z => absurd hss (z.2 a (by omega) hb)⟩
          · refine ⟨true, (if_neg hle2).trans ((if_neg (fun z => bI_0.mp z hq)).trans ((if_pos ((bit_1 hw (by omega)).mpr hb)).trans (bs hsm ((if_pos (bI_0.mpr hss)).trans (bs na rfl))))), ?_⟩
            refine ⟨fun _ => ⟨hI3.1, fun a' h1 h2 => ?_⟩, fun _ => rfl⟩
            by_cases haa : a' = a
            · subst haa; exact hss
            · exact hI3.2 a' (by omega) h2
        · refine ⟨true, (if_neg hle2).trans ((if_neg (fun z => bI_0.mp z hq)).trans ((if_neg (fun z => hb ((bit_1 hw (by omega)).mp z))).trans (bs na rfl))), ?_⟩
          refine ⟨fun _ => ⟨hI3.1, fun a' h1 h2 => ?_⟩, fun _ => rfl⟩
          by_cases haa : a' = a
          · subst haa; exact absurd h2 hb
          · exact hI3.2 a' (by omega) h2
      · refine ⟨false, (if_neg hle2).trans ((if_pos (bI_0.mpr hq)).trans (bs na rfl)), ?_⟩
        exact ⟨fun z => (by cases z), fun z => absurd (hI2.mpr ⟨z.1, fun a' h1 h2 => z.2 a' (by omega) h2⟩) hq⟩) (by
      intro fu2 q hI2
      have np : some (nI p + 1) = some (nI (p + 1)) := by rw [nI_1]
      show tb_Mo_places_35 N (tl_Mo_places_8 N fu) (tl_Mo_places_35 N (tl_Mo_places_8 N fu) fu2) (nI w) (nI (plc (sam f b X Y) w p)) (nI p) (bI q) (nI p) M = _
      unfold tb_Mo_places_35 tb_Mo_places_96
      have hpl : plc (sam f b X Y) w (p + 1) = if w.testBit p = true ∧ (∀ a, a < p → w.testBit a = true → ¬ sam f b X Y a p = true) then plc (sam f b X Y) w p + 1 else plc (sam f b X Y) w p := rfl
      refine (if_pos (nI_le (Nat.le_refl p) (by omega))).trans ?_
      by_cases hq : q = true
      · rw [hpl, if_pos (hI2.mp hq), ← nI_1]
        exact (if_neg (fun z => bI_0.mp z hq)).trans (bs np rfl)
      · rw [hpl, if_neg (fun z => hq (hI2.mpr z))]
        exact (if_pos (bI_0.mpr hq)).trans (bs np rfl))
    show tb_Mo_places_8 N (tl_Mo_places_8 N fu) (nI w) (nI (plc (sam f b X Y) w p)) (nI p) M = _
    unfold tb_Mo_places_8 tb_Mo_places_30
    by_cases hb : w.testBit p = true
    · exact bs rfl ((if_neg hle).trans ((if_pos ((bit_1 hw (by omega)).mpr hb)).trans (inner p 0 N true (by omega) (by omega) ⟨fun _ => ⟨hb, fun a h => by omega⟩, fun _ => rfl⟩)))
    · exact bs rfl ((if_neg hle).trans ((if_neg (fun z => hb ((bit_1 hw (by omega)).mp z))).trans (inner p 0 N false (by omega) (by omega) ⟨fun z => (by cases z), fun z => absurd z.1 hb⟩)))) (by
    intro fu l hI
    subst hI
    show tb_Mo_places_8 N (tl_Mo_places_8 N fu) (nI w) (nI (plc (sam f b X Y) w n)) (nI n) M = _
    unfold tb_Mo_places_8
    exact bs rfl (if_pos (by rw [hmany]; exact nI_le (Nat.le_refl n) (by omega))))
  exact main n 0 N 0 (by omega) (by omega) rfl
theorem m_places (hN : 25 ≤ N) (hd : MD M f n b X Y) (hmany : ms_many M = nI n) (hw : w < 2147483648) : ∃ M', t_Mo_places N (nI w) M = some (nI (plc (sam f b X Y) w n), M') ∧ KM [8, 13, 16] M M' ∧ ∀ a c, a < n → c < n → ms_same M' (10 * a + c) = bI (sam f b X Y a c) := by
  obtain ⟨M', e, k, hs⟩ := m_findSame (N := N) hN hd hmany
  exact ⟨M', bs e (m_count hN hd.2.1 (by rw [k.many (by decide), hmany]) hs hw), k, hs⟩
end PLC
