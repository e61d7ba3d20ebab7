/-! the class's list of areas -/
def prs (F : Nat → Nat → List Nat) : List Nat → List Nat
  | [] => []
  | x :: T => T.flatMap (F x) ++ prs F T
theorem fm_shift {g : Nat → List Nat} {lo n : Nat} : fm g (lo + 1) (n + 1) = fm (fun p => g (p + 1)) lo n := by
  have h : ∀ (m lo : Nat), fm g (lo + 1) (lo + m + 1) = fm (fun p => g (p + 1)) lo (lo + m) := by
    intro m
    induction m with
    | zero => intro lo; rw [fm_0 (by omega), fm_0 (by omega)]
    | succ m ih =>
      intro lo
      rw [fm_s (by omega), fm_s (n := lo + (m + 1)) (by omega)]
      have := ih (lo + 1)
      rw [show lo + (m + 1) + 1 = lo + 1 + m + 1 from by omega, show lo + (m + 1) = lo + 1 + m from by omega, this]
  by_cases hl : lo ≤ n
  · have := h (n - lo) lo
    rw [show lo + (n - lo) = n from by omega] at this
    exact this
  · rw [fm_0 (by omega), fm_0 (by omega)]
theorem fm_congr {g h : Nat → List Nat} {lo n : Nat} (e : ∀ p, lo ≤ p → p < n → g p = h p) : fm g lo n = fm h lo n := by
  have k : ∀ (m lo : Nat), n - lo = m → (∀ p, lo ≤ p → p < n → g p = h p) → fm g lo n = fm h lo n := by
    intro m
    induction m with
    | zero => intro lo hm _; rw [fm_0 (by omega), fm_0 (by omega)]
    | succ m ih =>
      intro lo hm e
      rw [fm_s (by omega), fm_s (g := h) (by omega), e lo (by omega) (by omega), ih (lo + 1) (by omega) (fun p h1 h2 => e p (by omega) h2)]
  exact k (n - lo) lo rfl e
theorem fm_list {G : Nat → List Nat} : ∀ (T : List Nat), fm (fun j => G (T.getD j 0)) 0 T.length = T.flatMap G := by
  intro T
  induction T with
  | nil => rfl
  | cons x T ih =>
    rw [List.length_cons, fm_s (by omega), fm_shift, List.flatMap_cons]
    exact congrArg (G x ++ ·) ih
theorem fm_prs {F : Nat → Nat → List Nat} : ∀ (T : List Nat), fm (fun i => fm (fun j => F (T.getD i 0) (T.getD j 0)) (i + 1) T.length) 0 T.length = prs F T := by
  intro T
  induction T with
  | nil => rfl
  | cons x T ih =>
    rw [List.length_cons, fm_s (by omega), fm_shift, fm_shift]
    show fm (fun j => F x (T.getD j 0)) 0 T.length ++ _ = T.flatMap (F x) ++ prs F T
    rw [fm_list (G := F x), ← ih]
    congr 1
    exact fm_congr (fun p _ _ => fm_shift)
theorem prs_filter {G : Nat → Nat → List Nat} {r : Nat → Bool} (T : List Nat) : (prs G T).filter r = prs (fun x y => (G x y).filter r) T := by
  induction T with
  | nil => rfl
  | cons x T ih =>
    show (T.flatMap (G x) ++ prs G T).filter r = T.flatMap (fun y => (G x y).filter r) ++ prs _ T
    rw [List.filter_append, ih, List.filter_flatMap]
theorem fl_if {G : Nat → List Nat} {p : Nat → Bool} (T : List Nat) : (T.filter p).flatMap G = T.flatMap (fun y => if p y = true then G y else []) := by
  induction T with
  | nil => rfl
  | cons y T ih =>
    by_cases h : p y = true
    · rw [List.filter_cons_of_pos h, List.flatMap_cons, List.flatMap_cons, if_pos h, ih]
    · rw [List.filter_cons_of_neg h, List.flatMap_cons, if_neg h, List.nil_append, ih]
theorem prs_of_filter {p : Nat → Bool} {G : Nat → Nat → List Nat} (T : List Nat) : prs G (T.filter p) = prs (fun x y => if p x = true ∧ p y = true then G x y else []) T := by
  induction T with
  | nil => rfl
  | cons x T ih =>
    by_cases h : p x = true
    · rw [List.filter_cons_of_pos h]
      show (T.filter p).flatMap (G x) ++ prs G (T.filter p) = T.flatMap _ ++ prs _ T
      rw [ih, fl_if]
      congr 1
      congr 1
      funext y
      show (if p y = true then G x y else []) = if p x = true ∧ p y = true then G x y else []
      by_cases h2 : p y = true
      · rw [if_pos h2, if_pos ⟨h, h2⟩]
      · rw [if_neg h2, if_neg (fun z => h2 z.2)]
    · rw [List.filter_cons_of_neg h, ih]
      show _ = T.flatMap (fun y => if p x = true ∧ p y = true then G x y else []) ++ prs _ T
      have : T.flatMap (fun y => if p x = true ∧ p y = true then G x y else []) = [] := by
        rw [List.flatMap_eq_nil_iff]
        intro y _
        rw [if_neg (fun z => h z.1)]
      rw [this, List.nil_append]
theorem prs_congr {G H : Nat → Nat → List Nat} {T : List Nat} (h : ∀ x, x ∈ T → ∀ y, y ∈ T → G x y = H x y) : prs G T = prs H T := by
  induction T with
  | nil => rfl
  | cons x T ih =>
    show T.flatMap (G x) ++ prs G T = T.flatMap (H x) ++ prs H T
    rw [ih (fun a ha c hc => h a (List.mem_cons_of_mem _ ha) c (List.mem_cons_of_mem _ hc))]
    congr 1
    have : ∀ (T2 : List Nat), (∀ y, y ∈ T2 → G x y = H x y) → T2.flatMap (G x) = T2.flatMap (H x) := by
      intro T2
      induction T2 with
      | nil => intro _; rfl
      | cons y T2 ih2 =>
        intro h2
        rw [List.flatMap_cons, List.flatMap_cons, h2 y List.mem_cons_self, ih2 (fun z hz => h2 z (List.mem_cons_of_mem _ hz))]
    exact this T (fun y hy => h x List.mem_cons_self y (List.mem_cons_of_mem _ hy))
def E7 (n : Nat) : List Nat := prs (fun x y => [x + y * 4096]) (E1 n)
/-- a triple on no line -/
def nol (f : Nat) (b : Nat → Bool) (X Y : Nat → Nat → Int) (w : Nat) : Bool := !alk f b X Y 1 (rk w)
theorem LR.full {S : CS} {k : Nat} {L L2 : List Nat} (h : LR S k L) (hf : il_len k ≤ L.length) : LR S k (L ++ L2) := by
  obtain ⟨h1, h2⟩ := h
  rw [Nat.min_eq_right hf] at h1 h2
  have hm : min (L ++ L2).length (il_len k) = il_len k := Nat.min_eq_right (by rw [List.length_append]; omega)
  refine ⟨by rw [hm]; exact h1, fun i hi => ?_⟩
  rw [hm] at hi
  rw [List.getD_eq_getElem?_getD, List.getElem?_append_left (by omega), ← List.getD_eq_getElem?_getD]
  exact h2 i hi
def sqa (X Y : Nat → Int) (w : Nat) : Int := crs X Y (rk w 0) (rk w 1) (rk w 0) (rk w 2) * crs X Y (rk w 0) (rk w 1) (rk w 0) (rk w 2) % 1000003
/-- the triples that are being found -/
def TI (S : CS) (X Y : Nat → Int) (L : List Nat) (S1 : CS) : Prop := KC [8, 20, 21] S S1 ∧ (∀ j, j ≠ 11 → cs_items S1 j = cs_items S j ∧ cs_lsize S1 j = cs_lsize S j) ∧ LR S1 11 L ∧ ∀ i, i < min L.length 120 → (cs_areas S1 i).toInt = sqa X Y (L.getD i 0)
section ARE
variable {N : Nat} {S : CS} {f n : Nat} {b : Nat → Bool} {X Y : Nat → Nat → Int}
theorem p_firstStanding (hN : 25 ≤ N) (h : CD S 0 f n b X Y) : ∃ o, t_Dr_firstStanding N 0 S = some o ∧ match o with
    | none => ∀ g, g < f → ¬ b g = true
    | some j => j < f ∧ b j = true := by
  obtain ⟨hf5, hn10, hd, hst, hfig⟩ := h
  have main := up_loop (σ := Unit) (L := fun fu g _ => tl_Dr_firstStanding_2 N 0 fu (nI g) S) (e := f) (I := fun p _ => ∀ g, g < p → ¬ b g = true) (Q := fun e => ∃ o, e = some o ∧ match o with
    | none => ∀ g, g < f → ¬ b g = true
    | some j => j < f ∧ b j = true) (by
    intro fu g u hg hI
    have hx : ta 5 (fun z => 5 * 0 + z) (nI g) = some (5 * 0 + g) := ta_n (by omega) (by decide)
    have hle : ¬ cs_dsize S 0 ≤ nI g := by rw [hd]; exact nI_ge hg (by omega)
    have nx1 : some (nI g + 1) = some (nI (g + 1)) := by rw [nI_1]
    obtain ⟨hfa, hcx⟩ := hfig g hg
    show (∃ s', tb_Dr_firstStanding_2 N (tl_Dr_firstStanding_2 N 0 fu) 0 (nI g) S = _ ∧ _) ∨ (∃ o, tb_Dr_firstStanding_2 N (tl_Dr_firstStanding_2 N 0 fu) 0 (nI g) S = some o ∧ _)
    unfold tb_Dr_firstStanding_2
    by_cases hb : b g = true
    · refine Or.inr ⟨some (5 * 0 + g), bs rfl <| (if_neg hle).trans <| bs hx <| bs rfl <| (if_pos (hfa.mpr hb)).trans <| bs hx rfl, ?_⟩
      show 5 * 0 + g < f ∧ b (5 * 0 + g) = true
      rw [Nat.mul_zero, Nat.zero_add]
      exact ⟨hg, hb⟩
    · refine Or.inl ⟨(), bs rfl <| (if_neg hle).trans <| bs hx <| bs rfl <| (if_neg (fun z => hb (hfa.mp z))).trans <| bs nx1 rfl, fun g2 hg2 => ?_⟩
      by_cases hgg : g2 = g
      · subst hgg; exact hb
      · exact hI g2 (by omega)) (by
    intro fu u hI
    refine ⟨none, ?_, hI⟩
    show tb_Dr_firstStanding_2 N (tl_Dr_firstStanding_2 N 0 fu) 0 (nI f) S = _
    unfold tb_Dr_firstStanding_2
    exact bs rfl (if_pos (by rw [hd]; exact nI_le (Nat.le_refl f) (by omega))))
  exact main f 0 N () (by omega) (by omega) (fun g hg => by omega)
theorem ft_step {g a c d : Nat} {S1 : CS} {L : List Nat} {k10 : Option Nat → Int32 → CS → Option CS} {k22 : Option Nat → Int32 → Int32 → CS → Option CS} {k35 : Option Nat → Int32 → Int32 → Int32 → CS → Option CS} (hN : 25 ≤ N) (hcd : CD S 0 f n b X Y) (hpt : cs_pts S = nI n) (hg : g < f) (hb : b g = true) (ha : a < n) (hc : c < n) (hd : d < n) (hI : TI S (X g) (Y g) L S1) : ∃ S2, tb_Fs_findTriples_35 N k10 k22 k35 (some g) (nI a) (nI c) (nI d) S1 = k35 (some g) (nI a) (nI c) (nI (d + 1)) S2 ∧ TI S (X g) (Y g) (L ++ [w6 a c d 0 0 0].filter (nol f b X Y)) S2 := by
  obtain ⟨hK, hj, hL, hA⟩ := hI
  have hn := hcd.2.1
  have hf5 := hcd.1
  have hcd1 := hK.cd (by decide) hcd
  have hpt1 : cs_pts S1 = nI n := by rw [hK.pts (by decide), hpt]
  have hle : ¬ cs_pts S1 ≤ nI d := by rw [hpt1]; exact nI_ge hd (by omega)
  have nx1 : some (nI d + 1) = some (nI (d + 1)) := by rw [nI_1]
  have il : il_len 11 = 120 := rfl
  unfold tb_Fs_findTriples_35 tb_Fs_findTriples_108
  have hls := hL.1
  rw [il] at hls
  by_cases hf : 120 ≤ L.length
  · have hls2 : cs_lsize S1 11 = nI 120 := by rw [hls, Nat.min_eq_right hf]
    refine ⟨S1, bs rfl <| (if_neg hle).trans <| bs rfl <| (if_pos (by rw [hls2]; decide)).trans <| bs nx1 rfl, hK, hj, hL.full (by rw [il]; exact hf), fun i hi => ?_⟩
    have hi2 : i < 120 := by omega
    rw [List.getD_eq_getElem?_getD, List.getElem?_append_left (by omega), ← List.getD_eq_getElem?_getD]
    exact hA i (by omega)
  · have hls2 : cs_lsize S1 11 = nI L.length := by rw [hls, Nat.min_eq_left (by omega)]
    have hw : w6 a c d 0 0 0 < 2147483648 := by have := w6_lt (a := a) (b := c) (c := d) (d := 0) (e := 0) (f := 0) (by omega) (by omega) (by omega) (by omega) (by omega) (by omega); omega
    have ep := p_pack (N := N) (a := a) (b := c) (c := d) (by omega) (by omega) (by omega)
    have es := p_shown (N := N) (i := 0) (k := 1) (w := w6 a c d 0 0 0) hN hcd1 (by decide) hw (w3_j hn ha hc hd)
    by_cases hs : alk f b X Y 1 (rk (w6 a c d 0 0 0)) = true
    · refine ⟨S1, bs rfl <| (if_neg hle).trans <| bs rfl <| (if_neg (by rw [hls2]; exact nI_ge (b := 120) (by omega) (by decide))).trans <| bs ep <| bs es <| (if_neg (fun z => bI_0.mp z hs)).trans <| bs nx1 rfl, ?_⟩
      rw [List.filter_cons_of_neg (by unfold nol; rw [hs]; decide), List.filter_nil, List.append_nil]
      exact ⟨hK, hj, hL, hA⟩
    · have hcx := (hcd1.2.2.2.2 g hg).2 hb
      rw [Nat.mul_zero, Nat.zero_add] at hcx
      obtain ⟨r, er, hr⟩ := p_sqarea (N := N) hcx ha hc hd
      have htk : tk 10 (some g) = some g := if_pos (by omega)
      have wr : twl 120 (cs_areas S1) (cs_lsize S1 11) r = some (vp_updL (cs_areas S1) L.length r) := by rw [hls2]; exact twl_n (by omega) (by decide)
      have kA : KC [8] S1 (cs_set_areas S1 (vp_updL (cs_areas S1) L.length r)) := KC.s_areas
      have hLA : LR (cs_set_areas S1 (vp_updL (cs_areas S1) L.length r)) 11 L := ⟨by rw [kA.lsize (by decide)]; exact hL.1, fun i hi => by rw [kA.items (by decide)]; exact hL.2 i hi⟩
      obtain ⟨S3, e3, l3, k3, j3⟩ := p_add (N := N) (w := w6 a c d 0 0 0) hLA
      refine ⟨S3, bs rfl <| (if_neg hle).trans <| bs rfl <| (if_neg (by rw [hls2]; exact nI_ge (b := 120) (by omega) (by decide))).trans <| bs ep <| bs es <| (if_pos (bI_0.mpr hs)).trans <| bs rfl <| bs htk <| bs er <| bs wr <| bs rfl <| bs ep <| bs e3 <| bs nx1 rfl, ?_⟩
      rw [List.filter_cons_of_pos (by unfold nol; rw [Bool.not_eq_true] at hs; rw [hs]; rfl), List.filter_nil]
      refine ⟨(hK.tr (kA.mo (by decide))).tr (k3.mo (by decide)), fun j hj2 => ?_, l3, fun i hi => ?_⟩
      · rw [(j3 j hj2).1, (j3 j hj2).2, kA.items (by decide), kA.lsize (by decide)]
        exact hj j hj2
      · rw [k3.areas (by decide), cs_g_areas_areas]
        rw [List.length_append] at hi
        have hi2 : i < L.length + 1 := by
          have : [w6 a c d 0 0 0].length = 1 := rfl
          omega
        by_cases hil : i = L.length
        · rw [hil, pk_uLs, gd_e, hr.1]
          unfold sqa
          rw [rk_0 (by omega), rk_1 (by omega) (by omega), rk_2 (by omega) (by omega) (by omega)]
        · rw [pk_uLn hil, gd_l (by omega)]
          exact hA i (by omega)
theorem p_findTriples {g : Nat} (hN : 25 ≤ N) (hd : CD S 0 f n b X Y) (hpt : cs_pts S = nI n) (hg : g < f) (hb : b g = true) : ∃ S', t_Fs_findTriples N (some g) S = some S' ∧ TI S (X g) (Y g) ((E1 n).filter (nol f b X Y)) S'  := by
  have hn := hd.2.1
  have lev1 := fm_loop (Lp := fun fu p s => tl_Fs_findTriples_10 N fu (some g) (nI p) s) (K := some) (n := n) (I := fun L s => TI S (X g) (Y g) L s) (g := fun a => fm (fun c => fm (fun d => [w6 a c d 0 0 0].filter (nol f b X Y)) (c + 1) n) (a + 1) n) 20 (0) (by omega) (by
    intro fu1 a s1 L1 hlo1 ha hI1
    have hpt1 : cs_pts s1 = nI n := by rw [hI1.1.pts (by decide), hpt]
    have hle1 : ¬ cs_pts s1 ≤ nI a := by rw [hpt1]; exact nI_ge ha (by omega)
    have nx1 : some (nI a + 1) = some (nI (a + 1)) := by rw [nI_1]
    have lev2 := fm_loop (Lp := fun fu p s => tl_Fs_findTriples_22 N (tl_Fs_findTriples_10 N fu1) fu (some g) (nI a) (nI p) s) (K := (fun s => tl_Fs_findTriples_10 N fu1 (some g) (nI (a + 1)) s)) (n := n) (I := fun L s => TI S (X g) (Y g) L s) (g := fun c => fm (fun d => [w6 a c d 0 0 0].filter (nol f b X Y)) (c + 1) n) 20 (a + 1) (by omega) (by
      intro fu2 c s2 L2 hlo2 hc hI2
      have hpt2 : cs_pts s2 = nI n := by rw [hI2.1.pts (by decide), hpt]
      have hle2 : ¬ cs_pts s2 ≤ nI c := by rw [hpt2]; exact nI_ge hc (by omega)
      have nx2 : some (nI c + 1) = some (nI (c + 1)) := by rw [nI_1]
      have lev3 := fm_loop (Lp := fun fu p s => tl_Fs_findTriples_35 N (tl_Fs_findTriples_10 N fu1) (tl_Fs_findTriples_22 N (tl_Fs_findTriples_10 N fu1) fu2) fu (some g) (nI a) (nI c) (nI p) s) (K := (fun s => tl_Fs_findTriples_22 N (tl_Fs_findTriples_10 N fu1) fu2 (some g) (nI a) (nI (c + 1)) s)) (n := n) (I := fun L s => TI S (X g) (Y g) L s) (g := fun d => [w6 a c d 0 0 0].filter (nol f b X Y)) 20 (c + 1) (by omega) (by
        intro fu3 d s3 L3 hlo3 hd2 hI3
        have hpt3 : cs_pts s3 = nI n := by rw [hI3.1.pts (by decide), hpt]
        have hle3 : ¬ cs_pts s3 ≤ nI d := by rw [hpt3]; exact nI_ge hd2 (by omega)
        have nx3 : some (nI d + 1) = some (nI (d + 1)) := by rw [nI_1]
        obtain ⟨S2, e3, B3⟩ := ft_step (N := N) (k10 := tl_Fs_findTriples_10 N fu1) (k22 := tl_Fs_findTriples_22 N (tl_Fs_findTriples_10 N fu1) fu2) (k35 := tl_Fs_findTriples_35 N (tl_Fs_findTriples_10 N fu1) (tl_Fs_findTriples_22 N (tl_Fs_findTriples_10 N fu1) fu2) fu3) hN hd hpt hg hb ha hc hd2 hI3
        exact ⟨S2, e3, B3⟩) (by
        intro fu3 p s3 L3 hp hp20 hI3
        show tb_Fs_findTriples_35 N (tl_Fs_findTriples_10 N fu1) (tl_Fs_findTriples_22 N (tl_Fs_findTriples_10 N fu1) fu2) (tl_Fs_findTriples_35 N (tl_Fs_findTriples_10 N fu1) (tl_Fs_findTriples_22 N (tl_Fs_findTriples_10 N fu1) fu2) fu3) (some g) (nI a) (nI c) (nI p) s3 = _
        unfold tb_Fs_findTriples_35
        exact bs rfl <| (if_pos (by rw [hI3.1.pts (by decide), hpt]; exact nI_le hp (by omega))).trans <| bs (by rw [nI_1]) rfl)
      obtain ⟨t2, e2, J2⟩ := lev3 (n - (c + 1)) (c + 1) N s2 L2 rfl (Nat.le_refl _) (by omega) (by omega) hI2
      refine ⟨t2, ?_, J2⟩
      show tb_Fs_findTriples_22 N (tl_Fs_findTriples_10 N fu1) (tl_Fs_findTriples_22 N (tl_Fs_findTriples_10 N fu1) fu2) (some g) (nI a) (nI c) s2 = _
      unfold tb_Fs_findTriples_22
      exact bs rfl <| (if_neg hle2).trans <| bs nx2 e2) (by
      intro fu2 p s2 L2 hp hp20 hI2
      show tb_Fs_findTriples_22 N (tl_Fs_findTriples_10 N fu1) (tl_Fs_findTriples_22 N (tl_Fs_findTriples_10 N fu1) fu2) (some g) (nI a) (nI p) s2 = _
      unfold tb_Fs_findTriples_22
      exact bs rfl <| (if_pos (by rw [hI2.1.pts (by decide), hpt]; exact nI_le hp (by omega))).trans <| bs (by rw [nI_1]) rfl)
    obtain ⟨t1, e1, J1⟩ := lev2 (n - (a + 1)) (a + 1) N s1 L1 rfl (Nat.le_refl _) (by omega) (by omega) hI1
    refine ⟨t1, ?_, J1⟩
    show tb_Fs_findTriples_10 N (tl_Fs_findTriples_10 N fu1) (some g) (nI a) s1 = _
    unfold tb_Fs_findTriples_10
    exact bs rfl <| (if_neg hle1).trans <| bs nx1 e1) (by
    intro fu1 p s1 L1 hp hp20 hI1
    show tb_Fs_findTriples_10 N (tl_Fs_findTriples_10 N fu1) (some g) (nI p) s1 = _
    unfold tb_Fs_findTriples_10
    exact bs rfl <| (if_pos (by rw [hI1.1.pts (by decide), hpt]; exact nI_le hp (by omega))))
  have h0 : TI S (X g) (Y g) [] (cs_set_lsize S (va_up (cs_lsize S) 11 0)) := by
    refine ⟨KC.s_lsize.mo (by decide), fun j hj => ⟨by rw [cs_g_items_lsize], by rw [cs_g_lsize_lsize, va_up_ne _ _ hj]⟩, ⟨?_, fun i hi => ?_⟩, fun i hi => ?_⟩
    · rw [cs_g_lsize_lsize, va_up_self]
      rfl
    · have : min ([] : List Nat).length (il_len 11) = 0 := by decide
      omega
    · have : min ([] : List Nat).length 120 = 0 := by decide
      omega
  obtain ⟨S', e, I⟩ := lev1 (n - 0) 0 N _ [] rfl (Nat.le_refl _) (by omega) (by omega) h0
  refine ⟨S', bs rfl e, ?_⟩
  have hE : (E1 n).filter (nol f b X Y) = fm (fun a => fm (fun c => fm (fun d => [w6 a c d 0 0 0].filter (nol f b X Y)) (c + 1) n) (a + 1) n) 0 n := by
    unfold E1
    simp only [fm_filter]
  rw [hE]
  exact I
theorem E1_ok : ∀ n, n < 11 → (E1 n).length ≤ 120 ∧ ∀ w, w ∈ E1 n → w < 4096 ∧ rk w 0 < n ∧ rk w 1 < n ∧ rk w 2 < n := by decide +kernel
theorem rk_jn {x y j : Nat} (hx : x < 4096) (hj : j < 3) : rk (x + y * 4096) j = rk x j ∧ rk (x + y * 4096) (j + 3) = rk y j := by
  unfold rk
  match j, hj with
  | 0, _ => rw [show 16 ^ 0 = 1 from rfl, show 16 ^ (0 + 3) = 4096 from rfl]; omega
  | 1, _ => rw [show 16 ^ 1 = 16 from rfl, show 16 ^ (1 + 3) = 65536 from rfl]; omega
  | 2, _ => rw [show 16 ^ 2 = 256 from rfl, show 16 ^ (2 + 3) = 1048576 from rfl]; omega
  | j + 3, h => omega
theorem sho7 {X Y : Nat → Int} {x y m n : Nat} (hx : x < 4096) : sho X Y 7 (rk (x + y * 4096)) m n = true ↔ sqa X Y x = sqa X Y y := by
  show decide (_ = _) = true ↔ _
  rw [decide_eq_true_iff]
  have h0 := rk_jn (y := y) hx (j := 0) (by decide)
  have h1 := rk_jn (y := y) hx (j := 1) (by decide)
  have h2 := rk_jn (y := y) hx (j := 2) (by decide)
  rw [h0.1, h1.1, h2.1, show (3 : Nat) = 0 + 3 from rfl, show (4 : Nat) = 1 + 3 from rfl, show (5 : Nat) = 2 + 3 from rfl, h0.2, h1.2, h2.2]
  exact Iff.rfl
theorem stn_none {b : Nat → Bool} : ∀ f, (∀ g, g < f → ¬ b g = true) → stn b f = 0 := by
  intro f
  induction f with
  | zero => intro _; rfl
  | succ f ih =>
    intro h
    show (if b f = true then stn b f + 1 else stn b f) = 0
    rw [if_neg (h f (by omega)), ih (fun g hg => h g (by omega))]
/-- told, of areas -/
def ctl7 (f : Nat) (b : Nat → Bool) (X Y : Nat → Nat → Int) (w : Nat) : Bool := ctl f b X Y 7 w && nol f b X Y (w % 4096) && nol f b X Y (w / 4096)
theorem lr_nil (k i : Nat) : ¬ i < min ([] : List Nat).length (il_len k) := by
  rw [List.length_nil, Nat.zero_min]
  omega
theorem gd_mem {L : List Nat} {i : Nat} (h : i < L.length) : L.getD i 0 ∈ L := by
  rw [List.getD_eq_getElem?_getD, List.getElem?_eq_getElem h]
  exact List.getElem_mem h
theorem l_areas (hN : 200 ≤ N) (hd : CD S 0 f n b X Y) (hpt : cs_pts S = nI n) (hl : ∀ p, p < n → cs_leads S p = nI (led f b X Y p)) (hB : BI S 7 [] S) : ∃ S', t_Fs_listAreas N S = some S' ∧ KC [8, 11, 12, 20, 21] S S' ∧ DV S' ∧ (∀ j, j ≠ 7 → j ≠ 11 → cs_items S' j = cs_items S j ∧ cs_lsize S' j = cs_lsize S j) ∧ LR S' 7 ((E7 n).filter (ctl7 f b X Y)) := by
  obtain ⟨o, eo, ho⟩ := p_firstStanding (N := N) (by omega) hd
  have hn := hd.2.1
  have hE := E1_ok n (by omega)
  unfold t_Fs_listAreas
  match o, ho with
  | none, ho =>
    have hz := stn_none f ho
    refine ⟨S, bs eo <| if_pos rfl, KC.rf, hB.2.1, fun j _ _ => ⟨rfl, rfl⟩, ?_⟩
    have : (E7 n).filter (ctl7 f b X Y) = [] := by
      rw [List.filter_eq_nil_iff]
      intro w _ hw
      unfold ctl7 ctl hld at hw
      rw [if_pos (by decide)] at hw
      simp only [Bool.and_eq_true] at hw
      have := (alw_iff.mp hw.1.1.1).1
      omega
    rw [this]
    exact hB.2.2.2
  | some g, ho =>
    obtain ⟨hg, hb⟩ := ho
    obtain ⟨S1, e1, K1, j1, L1, A1⟩ := p_findTriples (N := N) (g := g) (by omega) hd hpt hg hb
    generalize hT : (E1 n).filter (nol f b X Y) = T at L1 A1
    have hTl : T.length ≤ 120 := by
      rw [← hT]
      exact Nat.le_trans (List.length_filter_le _ _) hE.1
    have hTm : ∀ w, w ∈ T → w < 4096 ∧ rk w 0 < n ∧ rk w 1 < n ∧ rk w 2 < n := fun w hw => by
      rw [← hT] at hw
      exact hE.2 w ((List.mem_filter.mp hw).1)
    have il : il_len 11 = 120 := rfl
    have hls : cs_lsize S1 11 = nI T.length := by
      have := L1.1
      rw [il, Nat.min_eq_left hTl] at this
      exact this
    have hit : ∀ i, i < T.length → cs_items S1 11 i = nI (T.getD i 0) := fun i hi => L1.2 i (by rw [il]; omega)
    have har : ∀ i, i < T.length → (cs_areas S1 i).toInt = sqa (X g) (Y g) (T.getD i 0) := fun i hi => A1 i (by omega)
    have hd1 := K1.cd (by decide) hd
    have hl1 : ∀ p, p < n → cs_leads S1 p = nI (led f b X Y p) := fun p hp => by rw [K1.leads (by decide)]; exact hl p hp
    have hB1 : BI S1 7 [] S1 := ⟨KC.rf, hB.2.1.kc K1 (by decide), fun j _ => ⟨rfl, rfl⟩, ⟨by rw [(j1 7 (by decide)).2]; exact hB.2.2.2.1, fun i hi => absurd hi (lr_nil 7 i)⟩⟩
    have lev1 := fm_loop (Lp := fun fu p s => tl_Fs_listAreas_20 N fu (nI p) s) (K := some) (n := T.length) (I := fun L s => BI S1 7 L s) (g := fun i => fm (fun j => [T.getD i 0 + T.getD j 0 * 4096].filter (ctl f b X Y 7)) (i + 1) T.length) 130 0 (by omega) (by
      intro fu1 i s1 M1 hlo1 hi I1
      have ls1 : cs_lsize s1 11 = nI T.length := by rw [(I1.2.2.1 11 (by decide)).2, hls]
      have hle1 : ¬ cs_lsize s1 11 ≤ nI i := by rw [ls1]; exact nI_ge hi (by omega)
      have nx1 : some (nI i + 1) = some (nI (i + 1)) := by rw [nI_1]
      have lev2 := fm_loop (Lp := fun fu p s => tl_Fs_listAreas_35 N (tl_Fs_listAreas_20 N fu1) fu (nI i) (nI p) s) (K := fun s => tl_Fs_listAreas_20 N fu1 (nI (i + 1)) s) (n := T.length) (I := fun L s => BI S1 7 L s) (g := fun j => [T.getD i 0 + T.getD j 0 * 4096].filter (ctl f b X Y 7)) 130 (i + 1) (by omega) (by
        intro fu2 j s2 M2 hlo2 hj I2
        have ls2 : cs_lsize s2 11 = nI T.length := by rw [(I2.2.2.1 11 (by decide)).2, hls]
        have hle2 : ¬ cs_lsize s2 11 ≤ nI j := by rw [ls2]; exact nI_ge hj (by omega)
        have nx2 : some (nI j + 1) = some (nI (j + 1)) := by rw [nI_1]
        have ti : ta (il_len 11) (cs_items s2 11) (nI i) = some (nI (T.getD i 0)) := by rw [il, ta_n (by omega) (by decide), (I2.2.2.1 11 (by decide)).1, hit i hi]
        have tj : ta (il_len 11) (cs_items s2 11) (nI j) = some (nI (T.getD j 0)) := by rw [il, ta_n (by omega) (by decide), (I2.2.2.1 11 (by decide)).1, hit j hj]
        have ai : ta 120 (cs_areas s2) (nI i) = some (cs_areas S1 i) := by rw [ta_n (by omega) (by decide), I2.1.areas (by decide)]
        have aj : ta 120 (cs_areas s2) (nI j) = some (cs_areas S1 j) := by rw [ta_n (by omega) (by decide), I2.1.areas (by decide)]
        have mi := hTm _ (gd_mem hi)
        have mj := hTm _ (gd_mem hj)
        have ceq : lg_cmp (cs_areas S1 i) (cs_areas S1 j) = 0 ↔ sqa (X g) (Y g) (T.getD i 0) = sqa (X g) (Y g) (T.getD j 0) := by
          rw [lg_cmp_eq, ← Int64.toInt_inj, har i hi, har j hj]
        generalize T.getD i 0 = x at ti mi ceq ⊢
        generalize T.getD j 0 = y at tj mj ceq ⊢
        by_cases hq : sqa (X g) (Y g) x = sqa (X g) (Y g) y
        · obtain ⟨S3, e3, B3⟩ := p_consider (N := N) (k := 7) (w := x + y * 4096) (by omega) hd1 hl1 (by decide) (by omega) (by
            intro q hq
            have hq6 : q < 6 := hq
            match q, hq6 with
            | 0, _ => rw [(rk_jn mi.1 (j := 0) (by decide)).1]; exact mi.2.1
            | 1, _ => rw [(rk_jn mi.1 (j := 1) (by decide)).1]; exact mi.2.2.1
            | 2, _ => rw [(rk_jn mi.1 (j := 2) (by decide)).1]; exact mi.2.2.2
            | 3, _ => rw [show (3 : Nat) = 0 + 3 from rfl, (rk_jn mi.1 (j := 0) (by decide)).2]; exact mj.2.1
            | 4, _ => rw [show (4 : Nat) = 1 + 3 from rfl, (rk_jn mi.1 (j := 1) (by decide)).2]; exact mj.2.2.1
            | 5, _ => rw [show (5 : Nat) = 2 + 3 from rfl, (rk_jn mi.1 (j := 2) (by decide)).2]; exact mj.2.2.2
            | q + 6, h => omega) I2
          refine ⟨S3, ?_, B3⟩
          show tb_Fs_listAreas_35 N (tl_Fs_listAreas_20 N fu1) (tl_Fs_listAreas_35 N (tl_Fs_listAreas_20 N fu1) fu2) (nI i) (nI j) s2 = _
          unfold tb_Fs_listAreas_35 tb_Fs_listAreas_89
          exact bs rfl <| (if_neg hle2).trans <| bs ai <| bs aj <| (if_pos (ceq.mpr hq)).trans <| bs ti <| bs tj <| bs (p_join mi.1 mj.1) <| bs e3 <| bs nx2 rfl
        · refine ⟨s2, ?_, ?_⟩
          · show tb_Fs_listAreas_35 N (tl_Fs_listAreas_20 N fu1) (tl_Fs_listAreas_35 N (tl_Fs_listAreas_20 N fu1) fu2) (nI i) (nI j) s2 = _
            unfold tb_Fs_listAreas_35 tb_Fs_listAreas_89
            exact bs rfl <| (if_neg hle2).trans <| bs ai <| bs aj <| (if_neg (fun z => hq (ceq.mp z))).trans <| bs nx2 rfl
          · rw [List.filter_cons_of_neg (by
              intro z
              unfold ctl hld at z
              rw [if_pos (by decide), Bool.and_eq_true] at z
              exact hq ((sho7 mi.1).mp ((alw_iff.mp z.1).2 g hg hb))), List.filter_nil, List.append_nil]
            exact I2) (by
        intro fu2 p s2 M2 hp hp20 I2
        show tb_Fs_listAreas_35 N (tl_Fs_listAreas_20 N fu1) (tl_Fs_listAreas_35 N (tl_Fs_listAreas_20 N fu1) fu2) (nI i) (nI p) s2 = _
        unfold tb_Fs_listAreas_35
        exact bs rfl <| (if_pos (by rw [(I2.2.2.1 11 (by decide)).2, hls]; exact nI_le hp (by omega))).trans <| bs (by rw [nI_1]) rfl)
      obtain ⟨t1, e1, J1⟩ := lev2 (T.length - (i + 1)) (i + 1) N s1 M1 rfl (Nat.le_refl _) (by omega) (by omega) I1
      refine ⟨t1, ?_, J1⟩
      show tb_Fs_listAreas_20 N (tl_Fs_listAreas_20 N fu1) (nI i) s1 = _
      unfold tb_Fs_listAreas_20
      exact bs rfl <| (if_neg hle1).trans <| bs nx1 e1) (by
      intro fu1 p s1 M1 hp hp20 I1
      show tb_Fs_listAreas_20 N (tl_Fs_listAreas_20 N fu1) (nI p) s1 = _
      unfold tb_Fs_listAreas_20
      exact bs rfl <| (if_pos (by rw [(I1.2.2.1 11 (by decide)).2, hls]; exact nI_le hp (by omega))))
    obtain ⟨S2, e2, I2⟩ := lev1 (T.length - 0) 0 N S1 [] rfl (Nat.le_refl _) (by omega) (by omega) hB1
    refine ⟨S2, bs eo <| (if_neg (by intro z; cases z)).trans <| bs e1 e2, (K1.mo (by decide)).tr (I2.1.mo (by decide)), I2.2.1, fun j h7 h11 => ?_, ?_⟩
    · rw [(I2.2.2.1 j h7).1, (I2.2.2.1 j h7).2]
      exact j1 j h11
    · have hfin : (E7 n).filter (ctl7 f b X Y) = [] ++ fm (fun i => fm (fun j => [T.getD i 0 + T.getD j 0 * 4096].filter (ctl f b X Y 7)) (i + 1) T.length) 0 T.length := by
        rw [List.nil_append, fm_prs (F := fun x y => [x + y * 4096].filter (ctl f b X Y 7)), ← hT, prs_of_filter]
        unfold E7
        rw [prs_filter]
        apply prs_congr
        intro x hx y hy
        have hx4 := (hE.2 x hx).1
        have q1 : (x + y * 4096) % 4096 = x := by omega
        have q2 : (x + y * 4096) / 4096 = y := by omega
        have q3 : ctl7 f b X Y (x + y * 4096) = (ctl f b X Y 7 (x + y * 4096) && nol f b X Y x && nol f b X Y y) := by
          unfold ctl7
          rw [q1, q2]
        by_cases h1 : nol f b X Y x = true ∧ nol f b X Y y = true
        · rw [if_pos h1]
          by_cases h2 : ctl f b X Y 7 (x + y * 4096) = true
          · rw [List.filter_cons_of_pos h2, List.filter_cons_of_pos (by rw [q3, h2, h1.1, h1.2]; rfl)]
            rfl
          · rw [List.filter_cons_of_neg h2, List.filter_cons_of_neg (by rw [q3]; intro z; simp only [Bool.and_eq_true] at z; exact h2 z.1.1)]
            rfl
        · rw [if_neg h1, List.filter_cons_of_neg (by rw [q3]; intro z; simp only [Bool.and_eq_true] at z; exact h1 ⟨z.1.2, z.2⟩)]
          rfl
      rw [hfin]
      exact I2.2.2.2
end ARE
