/-! the two sides' states of one plan: n points, seed s, f figures -/
def rn (kd sr : Nat → Nat) (s n g : Nat) : FS := frun kd sr ((s + 1000 * g : Nat) : Int) n
def bb (kd sr : Nat → Nat) (s n g : Nat) : Bool := (rn kd sr s n g).2.2.2.isNone
def xx (kd sr : Nat → Nat) (s n g : Nat) : Nat → Int := (rn kd sr s n g).2.1
def yy (kd sr : Nat → Nat) (s n g : Nat) : Nat → Int := (rn kd sr s n g).2.2.1
/-- drawing i of the class is the plan's -/
def CDr (S : CS) (i n s f : Nat) (kd sr : Nat → Nat) : Prop := cs_dsize S i = nI f ∧ cs_stand S i = nI (stn (bb kd sr s n) f) ∧ ∀ g, g < f → FRep S (5 * i + g) n (rn kd sr s n g)
def CInv (S : CS) (n s f : Nat) (kd sr : Nat → Nat) : Prop := (1 ≤ s ∧ s ≤ 1000000) ∧ (1 ≤ f ∧ f ≤ 5) ∧ cs_seed S = nI s ∧ cs_figs S = nI f ∧ PR S n kd sr ∧ CDr S 0 n s f kd sr ∧ KI S f n (bb kd sr s n) (xx kd sr s n) (yy kd sr s n)
def MInv (M : MS) (n s f : Nat) (kd sr : Nat → Nat) : Prop := ms_seed M = nI s ∧ ms_figs M = nI f ∧ MPR M n kd sr ∧ ∀ g, g < f → MRep M g n (rn kd sr s n g)
section INV
variable {N : Nat} {S S' : CS} {M M' : MS} {n s f i : Nat} {kd sr : Nat → Nat}
theorem CDr.cd (h : CDr S i n s f kd sr) (hn : n ≤ 10) (hf : f ≤ 5) : CD S i f n (bb kd sr s n) (xx kd sr s n) (yy kd sr s n) := by
  refine ⟨hf, hn, h.1, h.2.1, fun g hg => ⟨(h.2.2 g hg).none_iff, fun hb => ?_⟩⟩
  have hR := h.2.2 g hg
  unfold FRep at hR
  have hno : (rn kd sr s n g).2.2.2 = none := Option.isNone_iff_eq_none.mp hb
  rw [hno] at hR
  exact hR.2.2.2.2
theorem CInv.cd (h : CInv S n s f kd sr) : CD S 0 f n (bb kd sr s n) (xx kd sr s n) (yy kd sr s n) := h.2.2.2.2.2.1.cd h.2.2.2.2.1.2.1 h.2.1.2
theorem MInv.md (h : MInv M n s f kd sr) (hf : f ≤ 5) : MD M f n (bb kd sr s n) (xx kd sr s n) (yy kd sr s n) := by
  refine ⟨hf, h.2.2.1.2.1, h.2.1, fun g hg => ⟨(h.2.2.2 g hg).none_iff, fun hb => ?_⟩⟩
  have hR := h.2.2.2 g hg
  unfold MRep at hR
  have hno : (rn kd sr s n g).2.2.2 = none := Option.isNone_iff_eq_none.mp hb
  rw [hno] at hR
  exact hR.2
theorem CDr.kc {l : List Nat} (h : CDr S i n s f kd sr) (hk : KC l S S') (hl : 9 ∉ l ∧ 10 ∉ l ∧ 13 ∉ l ∧ 14 ∉ l ∧ 15 ∉ l ∧ 16 ∉ l ∧ 17 ∉ l) : CDr S' i n s f kd sr := by
  obtain ⟨l9, l10, l13, l14, l15, l16, l17⟩ := hl
  refine ⟨by rw [hk.dsize l10]; exact h.1, by rw [hk.stand l9]; exact h.2.1, fun g hg => (h.2.2 g hg).same ?_ ?_ ?_ ?_ ?_⟩
  · rw [hk.fx l13]
  · rw [hk.fy l14]
  · rw [hk.made l15]
  · rw [hk.fallen l16]
  · rw [hk.rnd l17]
theorem PR.kc {l : List Nat} (h : PR S n kd sr) (hk : KC l S S') (hl : 2 ∉ l ∧ 3 ∉ l ∧ 4 ∉ l) : PR S' n kd sr := by
  unfold PR at h ⊢
  rw [hk.psize hl.1, hk.kinds hl.2.1, hk.srcs hl.2.2]
  exact h
theorem CInv.kc (h : CInv S n s f kd sr) (hk : KC [6, 7, 8, 11, 12, 20, 21] S S') (hK : KI S' f n (bb kd sr s n) (xx kd sr s n) (yy kd sr s n)) : CInv S' n s f kd sr := by
  obtain ⟨h1, h2, h3, h4, h5, h6, h7⟩ := h
  exact ⟨h1, h2, by rw [hk.seed (by decide)]; exact h3, by rw [hk.figs (by decide)]; exact h4, h5.kc hk (by decide), h6.kc hk (by decide), hK⟩
theorem MPR.km {l : List Nat} (h : MPR M n kd sr) (hk : KM l M M') (hl : 0 ∉ l ∧ 1 ∉ l ∧ 2 ∉ l) : MPR M' n kd sr := by
  unfold MPR at h ⊢
  rw [hk.many hl.1, hk.kindOf hl.2.1, hk.need hl.2.2]
  exact h
theorem MInv.km {l : List Nat} (h : MInv M n s f kd sr) (hk : KM l M M') (hl : 0 ∉ l ∧ 1 ∉ l ∧ 2 ∉ l ∧ 3 ∉ l ∧ 4 ∉ l ∧ 5 ∉ l ∧ 6 ∉ l ∧ 7 ∉ l) : MInv M' n s f kd sr := by
  obtain ⟨l0, l1, l2, l3, l4, l5, l6, l7⟩ := hl
  exact ⟨by rw [hk.seed l3]; exact h.1, by rw [hk.figs l4]; exact h.2.1, h.2.2.1.km hk ⟨l0, l1, l2⟩, fun g hg => (h.2.2.2 g hg).same (fun q _ => by rw [hk.xs l5]) (fun q _ => by rw [hk.ys l6]) (by rw [hk.fallsAt l7])⟩
/-! all is drawn anew -/
theorem kd_id : (fun j => if (fun _ : Nat => false) j = true then 0 else kd j) = kd := by
  funext j
  rfl
theorem c_forget {S : CS} (hD : DV S) : ∃ S', t_Fs_forget N (nI n) S = some S' ∧ KC [5, 6] S S' ∧ ∀ (f : Nat) (b : Nat → Bool) (X Y : Nat → Nat → Int), KI S' f n b X Y := by
  have k1 : KC [5] S (cs_set_pts S (nI n)) := KC.s_pts
  have k2 : KC [6] (cs_set_pts S (nI n)) (cs_set_known (cs_set_pts S (nI n)) 0) := KC.s_known
  have k12 : KC [5, 6] S (cs_set_known (cs_set_pts S (nI n)) 0) := (k1.mo (by decide)).tr (k2.mo (by decide))
  refine ⟨_, bs rfl <| bs rfl rfl, k12, fun f b X Y => ⟨by rw [k2.pts (by decide), cs_g_pts_pts], hD.kc k12 (by decide), 0, by decide, cs_g_known_known _ _, fun z => ?_, fun k _ z => ?_, fun z => ?_, fun z => ?_⟩⟩ <;>
  · rw [Nat.zero_testBit] at z
    cases z
theorem DEx.dv {S S' : CS} {i : Nat} (h : DEx S S' i) (hD : DV S) : DV S' := by
  obtain ⟨p0, p1, p2, p3, p4, p5, p6, p7, p8, p9, p10, p11, p12, d0, d1, f0, f1, f2, f3, f4⟩ := h
  unfold DV at hD ⊢
  rw [p9, p10]
  exact hD
theorem no_m1 : ∀ p, p < n → n ≤ 10 → (nI p = -1 ↔ (fun _ : Nat => false) p = true) := fun p hp hn => ⟨fun z => absurd z (nI_m1 (by omega)), fun z => by cases z⟩
theorem c_draw {i p : Nat} {fq : Nat → Bool} {v2 : Int32} (hN : 25 ≤ N) (hP : PR S n kd sr) (hs : s ≤ 1000000) (hf : f ≤ 5) (hfr : ∀ p, p < n → (nI p = v2 ↔ fq p = true)) : ∃ S1 S', t_Dr_begin N i (nI s) (nI f) S = some S1 ∧ t_Dr_goOn N i (some 0) v2 S1 = some S' ∧ DEx S S' i ∧ CDr S' i n s f (fun j => if fq j = true then 0 else kd j) sr := by
  obtain ⟨S1, e1, x1, d1, R1⟩ := d_begin (N := N) (i := i) (f := f) (kd := fun j => if fq j = true then 0 else kd j) (sr := sr) (s := s) (S := S) hN hs hf
  obtain ⟨S2, e2, x2, d2, R2, s2⟩ := d_goOn (N := N) (i := i) (n := n) (f := f) (s := s) (p := 0) (v2 := v2) (fq := fq) (kd := kd) (sr := sr) hN hfr (Nat.zero_le n) hf (hP.dx x1) d1 R1
  exact ⟨S1, S2, e1, e2, x1.tr x2, d2, s2, R2⟩
theorem c_drawAll (hN : 25 ≤ N) (hs : 1 ≤ s ∧ s ≤ 1000000) (hf : 1 ≤ f ∧ f ≤ 5) (hseed : cs_seed S = nI s) (hfig : cs_figs S = nI f) (hP : PR S n kd sr) (hD : DV S) : ∃ S', t_FF_drawAll N S = some S' ∧ CInv S' n s f kd sr := by
  have hn := hP.2.1
  obtain ⟨S1, S2, e1, e2, x2, D2⟩ := c_draw (N := N) (i := 0) (p := 0) (fq := fun _ => false) (v2 := -1) hN hP hs.2 hf.2 (fun p hp => no_m1 p hp hn)
  rw [kd_id] at D2
  have hP2 := hP.dx x2
  obtain ⟨S3, e3, k3, K3⟩ := c_forget (N := N) (n := n) (x2.dv hD)
  have hx := x2
  obtain ⟨p0, p1, -⟩ := hx
  refine ⟨S3, bs (congrArg some hseed) <| bs (congrArg some hfig) <| bs e1 <| bs e2 <| bs (congrArg some hP2.1) <| bs e3 rfl, hs, hf, ?_, ?_, hP2.kc k3 (by decide), D2.kc k3 (by decide), K3 _ _ _ _⟩
  · rw [k3.seed (by decide), p0, hseed]
  · rw [k3.figs (by decide), p1, hfig]
theorem mm_drawAll (hN : 25 ≤ N) (hs : s ≤ 1000000) (hf : f ≤ 5) (hseed : ms_seed M = nI s) (hfig : ms_figs M = nI f) (hP : MPR M n kd sr) : ∃ M', t_Mo_drawAll N M = some M' ∧ MInv M' n s f kd sr ∧ AMx M M' := by
  obtain ⟨M1, e1, x1, R1⟩ := m_drawAll (N := N) hN hP hseed hs hfig hf
  have hx := x1
  obtain ⟨p0, p1, p2, p3, p4, -⟩ := hx
  refine ⟨M1, e1, ⟨by rw [p3, hseed], by rw [p4, hfig], ?_, R1⟩, x1⟩
  unfold MPR at hP ⊢
  rw [p0, p1, p2]
  exact hP
end INV
/-! a plan that is changed -/
theorem frun_cg {kd sr kd2 sr2 : Nat → Nat} {s0 : Int} : ∀ n, (∀ p, p < n → kd p = kd2 p) → (∀ p, p < 4 * n → sr p = sr2 p) → frun kd sr s0 n = frun kd2 sr2 s0 n := by
  intro n
  induction n with
  | zero => intro _ _; rfl
  | succ n ih =>
    intro h1 h2
    show frS kd sr n (frun kd sr s0 n) = frS kd2 sr2 n (frun kd2 sr2 s0 n)
    rw [ih (fun p hp => h1 p (by omega)) (fun p hp => h2 p (by omega))]
    unfold frS
    rw [h1 n (by omega), h2 (4 * n) (by omega), h2 (4 * n + 1) (by omega), h2 (4 * n + 2) (by omega), h2 (4 * n + 3) (by omega)]
