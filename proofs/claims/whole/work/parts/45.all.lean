def ndk : Nat → Nat := fun k => ([0, 2, 3, 4, 3, 3, 3, 2, 3, 2, 2, 4, 3, 3] : List Nat).getD k 0
/-- what a step needs is there -/
def sok (n k a b c d : Nat) : Prop := (0 < ndk k → a < n) ∧ (1 < ndk k → b < n) ∧ (2 < ndk k → c < n) ∧ (3 < ndk k → d < n)
section ALL
variable {N : Nat} {S : CS} {M : MS} {i g n : Nat} {X Y : Nat → Int} {k a b c d : Nat} {s : Int}
theorem pf_all (hN : 25 ≤ N) (h : fcx S i n X Y) (hk : k < 14) (hok : sok n k a b c d) (hs : (cs_rnd S i).toInt = s) (h0 : 0 ≤ s) (h1 : s < 2147483647) : FF S i (t_Fi_find N i (nI k) (nI a) (nI b) (nI c) (nI d) S) (sStep X Y s k a b c d).1 (sStep X Y s k a b c d).2 := by
  match k, hk, hok with
  | 0, _, hok => exact pf_0 hN h  hs h0 h1
  | 1, _, hok => exact pf_1 hN h (hok.1 (by decide)) (hok.2.1 (by decide)) hs
  | 2, _, hok => exact pf_2 hN h (hok.1 (by decide)) (hok.2.1 (by decide)) (hok.2.2.1 (by decide)) hs
  | 3, _, hok => exact pf_3 hN h (hok.1 (by decide)) (hok.2.1 (by decide)) (hok.2.2.1 (by decide)) (hok.2.2.2 (by decide)) hs
  | 4, _, hok => exact pf_4 hN h (hok.1 (by decide)) (hok.2.1 (by decide)) (hok.2.2.1 (by decide)) hs
  | 5, _, hok => exact pf_5 hN h (hok.1 (by decide)) (hok.2.1 (by decide)) (hok.2.2.1 (by decide)) hs
  | 6, _, hok => exact pf_6 hN h (hok.1 (by decide)) (hok.2.1 (by decide)) (hok.2.2.1 (by decide)) hs
  | 7, _, hok => exact pf_7 hN h (hok.1 (by decide)) (hok.2.1 (by decide)) hs
  | 8, _, hok => exact pf_8 hN h (hok.1 (by decide)) (hok.2.1 (by decide)) (hok.2.2.1 (by decide)) hs
  | 9, _, hok => exact pf_9 hN h (hok.1 (by decide)) (hok.2.1 (by decide)) hs h0 h1
  | 10, _, hok => exact pf_10 hN h (hok.1 (by decide)) (hok.2.1 (by decide)) hs h0 h1
  | 11, _, hok => exact pf_11 hN h (hok.1 (by decide)) (hok.2.1 (by decide)) (hok.2.2.1 (by decide)) (hok.2.2.2 (by decide)) hs
  | 12, _, hok => exact pf_12 hN h (hok.1 (by decide)) (hok.2.1 (by decide)) (hok.2.2.1 (by decide)) hs
  | 13, _, hok => exact pf_13 hN h (hok.1 (by decide)) (hok.2.1 (by decide)) (hok.2.2.1 (by decide)) hs
  | k + 14, hk, _ => exact absurd hk (by omega)
theorem mf_all (hN : 25 ≤ N) (h : mcx M g n X Y) (hk : k < 14) (hok : sok n k a b c d) (hs : (ms_rnd M).toInt = s) (h0 : 0 ≤ s) (h1 : s < 2147483647) (hz : ms_isFallen M = 0) : MM M (t_Mo_doStep N (nI k) (nI a) (nI b) (nI c) (nI d) M) (sStep X Y s k a b c d).1 (sStep X Y s k a b c d).2 := by
  match k, hk, hok with
  | 0, _, hok => exact mf_0 hN h  hs h0 h1
  | 1, _, hok => exact mf_1 hN h (hok.1 (by decide)) (hok.2.1 (by decide)) hs
  | 2, _, hok => exact mf_2 hN h (hok.1 (by decide)) (hok.2.1 (by decide)) (hok.2.2.1 (by decide)) hs
  | 3, _, hok => exact mf_3 hN h (hok.1 (by decide)) (hok.2.1 (by decide)) (hok.2.2.1 (by decide)) (hok.2.2.2 (by decide)) hs
  | 4, _, hok => exact mf_4 hN h (hok.1 (by decide)) (hok.2.1 (by decide)) (hok.2.2.1 (by decide)) hs
  | 5, _, hok => exact mf_5 hN h (hok.1 (by decide)) (hok.2.1 (by decide)) (hok.2.2.1 (by decide)) hs
  | 6, _, hok => exact mf_6 hN h (hok.1 (by decide)) (hok.2.1 (by decide)) (hok.2.2.1 (by decide)) hs
  | 7, _, hok =>
    unfold t_Mo_doStep
    exact MM.eq ((if_neg (by decide)).trans ((if_neg (by decide)).trans ((if_neg (by decide)).trans ((if_neg (by decide)).trans ((if_neg (by decide)).trans ((if_neg (by decide)).trans ((if_neg (by decide)).trans (rfl)))))))) (MM.sm (mf_7 hN h (hok.1 (by decide)) (hok.2.1 (by decide)) hs))
  | 8, _, hok =>
    unfold t_Mo_doStep
    exact MM.eq ((if_neg (by decide)).trans ((if_neg (by decide)).trans ((if_neg (by decide)).trans ((if_neg (by decide)).trans ((if_neg (by decide)).trans ((if_neg (by decide)).trans ((if_neg (by decide)).trans (rfl)))))))) (MM.sm (mf_8 hN h (hok.1 (by decide)) (hok.2.1 (by decide)) (hok.2.2.1 (by decide)) hs))
  | 9, _, hok =>
    unfold t_Mo_doStep
    exact MM.eq ((if_neg (by decide)).trans ((if_neg (by decide)).trans ((if_neg (by decide)).trans ((if_neg (by decide)).trans ((if_neg (by decide)).trans ((if_neg (by decide)).trans ((if_neg (by decide)).trans (rfl)))))))) (MM.sm (mf_9 hN h (hok.1 (by decide)) (hok.2.1 (by decide)) hs h0 h1))
  | 10, _, hok =>
    unfold t_Mo_doStep
    exact MM.eq ((if_neg (by decide)).trans ((if_neg (by decide)).trans ((if_neg (by decide)).trans ((if_neg (by decide)).trans ((if_neg (by decide)).trans ((if_neg (by decide)).trans ((if_neg (by decide)).trans (rfl)))))))) (MM.sm (mf_10 hN h (hok.1 (by decide)) (hok.2.1 (by decide)) hs h0 h1))
  | 11, _, hok =>
    unfold t_Mo_doStep
    exact MM.eq ((if_neg (by decide)).trans ((if_neg (by decide)).trans ((if_neg (by decide)).trans ((if_neg (by decide)).trans ((if_neg (by decide)).trans ((if_neg (by decide)).trans ((if_neg (by decide)).trans (rfl)))))))) (MM.sm (mf_11 hN h (hok.1 (by decide)) (hok.2.1 (by decide)) (hok.2.2.1 (by decide)) (hok.2.2.2 (by decide)) hs hz))
  | 12, _, hok =>
    unfold t_Mo_doStep
    exact MM.eq ((if_neg (by decide)).trans ((if_neg (by decide)).trans ((if_neg (by decide)).trans ((if_neg (by decide)).trans ((if_neg (by decide)).trans ((if_neg (by decide)).trans ((if_neg (by decide)).trans (rfl)))))))) (MM.sm (mf_12 hN h (hok.1 (by decide)) (hok.2.1 (by decide)) (hok.2.2.1 (by decide)) hs))
  | 13, _, hok =>
    unfold t_Mo_doStep
    exact MM.eq ((if_neg (by decide)).trans ((if_neg (by decide)).trans ((if_neg (by decide)).trans ((if_neg (by decide)).trans ((if_neg (by decide)).trans ((if_neg (by decide)).trans ((if_neg (by decide)).trans (rfl)))))))) (MM.sm (mf_13 hN h (hok.1 (by decide)) (hok.2.1 (by decide)) (hok.2.2.1 (by decide)) hs))
  | k + 14, hk, _ => exact absurd hk (by omega)
end ALL
