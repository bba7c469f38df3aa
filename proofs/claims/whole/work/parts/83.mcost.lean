/-! ===== the model's least cost: its pieces ===== -/
theorem pop_0 : ∀ n, pop n 0 = 0
  | 0 => rfl
  | n + 1 => by
    show 0 % 2 + pop n (0 / 2) = 0
    rw [show 0 / 2 = 0 from rfl, pop_0 n]
theorem e_mcostOf {g : Gp} {f : Nat → Nat} {s t : Nat} {h : AH} {Q : PQ} (ms : ModS h) (sn : SnM h f) (hs : s < 16) (ht : t < 16) (hq : Q (.inl (some (vI (nI (cst f s t))))) h) : Ev g mX10_costOf [vR 99, vI (nI s), vI (nI t)] h Q := by
  refine nX10_costOf ?_
  have ks : (nI s).toNatClampNeg = s := nI_clamp (by omega)
  have kt : (nI t).toNatClampNeg = t := nI_clamp (by omega)
  have vs := vp_in_nI hs (by omega : 16 < 2 ^ 31)
  have vt := vp_in_nI ht (by omega : 16 < 2 ^ 31)
  have xs := (sn s hs)
  have xt := (sn t ht)
  have lp : ∀ n c x, x < 2 ^ n → n ≤ 6 → c ≤ 7 - n → c + pop n x = cst f s t → Ex g mX10_costOf 26 [vR 99, vI (nI s), vI (nI t), vI (nI c), vI (nI x)] [] h (0, 0) Q := by
    intro n
    induction n with
    | zero =>
      intro c x hx hn hc e
      have x0 : x = 0 := by omega
      subst x0
      rw [pop, Nat.add_zero] at e
      refine rX10_costOf_26 ?_
      simp only [bX10_costOf_26, run, Nat.reduceAdd, lg, st1, st2, lkill, lset, fvv, sfv, kind3, cat1, retI, retA, List.length_cons, List.length_nil, true_and, and_true, or_true, true_or, qX10_costOf, show nI 0 ≤ 0 ↔ True from ⟨fun _ => trivial, fun _ => by decide⟩, not_true_eq_false, not_false_eq_true, false_implies, true_and, and_true, tti]
      refine rX10_costOf_47 ?_
      simp only [bX10_costOf_47, run, Nat.reduceAdd, lg, st1, st2, lkill, lset, fvv, sfv, kind3, cat1, retI, retA, List.length_cons, List.length_nil, true_and, and_true, or_true, true_or, qX10_costOf]
      rw [e]
      exact hq
    | succ n ih =>
      intro c x hx hn hc e
      have p6 : 2 ^ (n + 1) ≤ 2 ^ 6 := Nat.pow_le_pow_right (by decide) hn
      have p62 : (2 : Nat) ^ 6 = 64 := by decide
      by_cases x0 : x = 0
      · subst x0
        rw [pop_0, Nat.add_zero] at e
        refine rX10_costOf_26 ?_
        simp only [bX10_costOf_26, run, Nat.reduceAdd, lg, st1, st2, lkill, lset, fvv, sfv, kind3, cat1, retI, retA, List.length_cons, List.length_nil, true_and, and_true, or_true, true_or, qX10_costOf, show nI 0 ≤ 0 ↔ True from ⟨fun _ => trivial, fun _ => by decide⟩, not_true_eq_false, not_false_eq_true, false_implies, true_and, and_true, tti]
        refine rX10_costOf_47 ?_
        simp only [bX10_costOf_47, run, Nat.reduceAdd, lg, st1, st2, lkill, lset, fvv, sfv, kind3, cat1, retI, retA, List.length_cons, List.length_nil, true_and, and_true, or_true, true_or, qX10_costOf]
        rw [e]
        exact hq
      · have z := ih (c + x % 2) (x / 2) (by rw [Nat.pow_succ] at hx; omega) (by omega) (by omega) (by rw [← e]; show _ = c + (x % 2 + pop n (x / 2)); omega)
        have q1 : nI x / 2 = nI (x / 2) := pk_div (d := 2) (by omega) (by decide) (by decide)
        have q2 : nI x - nI (x / 2) * 2 = nI (x % 2) := by rw [← q1]; exact pk_rem (d := 2) (by omega) (by decide) (by decide)
        refine rX10_costOf_26 ?_
        simp only [bX10_costOf_26, run, Nat.reduceAdd, lg, st1, st2, lkill, lset, fvv, sfv, kind3, cat1, retI, retA, List.length_cons, List.length_nil, true_and, and_true, or_true, true_or, qX10_costOf, show nI x ≤ 0 ↔ False from ⟨fun q => by have := (nI_leI (b := 0) (by omega) (by omega)).mp q; omega, False.elim⟩, ne_eq, show ¬ (2 : Int32) = 0 by decide, q1, q2, nI_add, not_true_eq_false, not_false_eq_true, false_implies, true_and, and_true, tti]
        exact z
  have hlt : f s ^^^ f t < 64 := Nat.xor_lt_two_pow (n := 6) xs.1 xt.1
  by_cases e : s = t
  · have z := lp 6 0 (f s ^^^ f t) hlt (Nat.le_refl _) (by omega) (by unfold cst; rw [if_pos e, e, Nat.xor_self, pop_0])
    refine rX10_costOf_0 ?_
    simp only [bX10_costOf_0, run, Nat.reduceAdd, lg, st1, st2, lkill, lset, fvv, sfv, kind3, cat1, retI, retA, List.length_cons, List.length_nil, true_and, and_true, or_true, true_or, qX10_costOf, show nI s = nI t ↔ True from ⟨fun _ => trivial, fun _ => by rw [e]⟩, ms.1, ms.R1, ms.K100, ks, kt, xs.2, xt.2, nx_xor, not_true_eq_false, not_false_eq_true, false_implies, true_and, and_true, tti]
    exact ⟨vs, vt, z⟩
  · have z := lp 6 1 (f s ^^^ f t) hlt (Nat.le_refl _) (by omega) (by unfold cst; rw [if_neg e])
    refine rX10_costOf_0 ?_
    simp only [bX10_costOf_0, run, Nat.reduceAdd, lg, st1, st2, lkill, lset, fvv, sfv, kind3, cat1, retI, retA, List.length_cons, List.length_nil, true_and, and_true, or_true, true_or, qX10_costOf, show nI s = nI t ↔ False from ⟨fun q => e ((nI_eq (by omega) (by omega)).mp q), False.elim⟩, not_true_eq_false, not_false_eq_true, false_implies, true_and, and_true, tti]
    refine rX10_costOf_9 ?_
    simp only [bX10_costOf_9, run, Nat.reduceAdd, lg, st1, st2, lkill, lset, fvv, sfv, kind3, cat1, retI, retA, List.length_cons, List.length_nil, true_and, and_true, or_true, true_or, qX10_costOf, ms.1, ms.R1, ms.K100, ks, kt, xs.2, xt.2, nx_xor, not_true_eq_false, not_false_eq_true, false_implies, true_and, and_true, tti]
    exact ⟨vs, vt, z⟩
theorem e_mspread {g : Gp} {r : Nat} {a : List Nat} {h : AH} {Q : PQ} (hr : zK h r = (2, 10)) (ha : Wok a) (hq : ∀ h', zK h' = zK h → zR h' = zR h → Kp (fun c => c = r) h h' → (∀ i, i < a.length → zI h' r i = nI (a.getD i 0)) → Q (.inl (some (vI (nI a.length)))) h') : Ev g mX10_spread [vL (wM a), vR r] h Q := by
  have a10 := ha.1
  refine nX10_spread ?_
  have lp : ∀ k h2, k ≤ a.length → zK h2 = zK h → zR h2 = zR h → Kp (fun c => c = r) h h2 → (∀ i, k ≤ i → i < a.length → zI h2 r i = nI (a.getD i 0)) → Ex g mX10_spread 13 [vL (wM a), vU, vR r, vI (nI a.length), vL (lN (wN (a.take k))), vU, vI (bI k)] [] h2 (0, 0) Q := by
    intro k
    induction k with
    | zero =>
      intro h2 _ ek er kp z
      refine rX10_spread_13 ?_
      simp only [bX10_spread_13, run, Nat.reduceAdd, lg, st1, st2, lkill, lset, fvv, sfv, kind3, cat1, retI, retA, List.length_cons, List.length_nil, true_and, and_true, or_true, true_or, qX10_spread, show bI 0 < 0 ↔ True from ⟨fun _ => trivial, fun _ => by decide⟩, not_true_eq_false, not_false_eq_true, false_implies, true_and, and_true, tti]
      refine rX10_spread_43 ?_
      simp only [bX10_spread_43, run, Nat.reduceAdd, lg, st1, st2, lkill, lset, fvv, sfv, kind3, cat1, retI, retA, List.length_cons, List.length_nil, true_and, and_true, or_true, true_or, qX10_spread]
      exact hq h2 ek er kp fun i hi => z i (Nat.zero_le _) hi
    | succ k ih =>
      intro h2 hk ek er kp z
      have h1 := wN_lt ha (j := k + 1) hk
      have h16 := ha.at k
      have et := wN_take (w := a) (j := k) (by omega)
      have e1 : wN (a.take (k + 1)) / 16 = wN (a.take k) := by omega
      have e2 : wN (a.take (k + 1)) % 16 = a.getD k 0 := by omega
      have kk : (nI k).toNatClampNeg = k := nI_clamp (by omega)
      have e6 : nI k + -1 = bI k := by rw [← bI_s k]; exact bI_dec k
      have n2 := ih (sI h2 r k (nI (a.getD k 0))) (by omega) ek er (kp.tr (Kp.sI rfl)) fun i q1 q2 => by
        rw [zI_sI]
        by_cases e : i = k
        · subst e; rw [up1_s]
        · rw [up1_n _ _ e]; exact z i (by omega) q2
      have q1 : lN (wN (a.take (k + 1))) / 16 = lN (wN (a.take k)) := by rw [show (16 : Int64) = lN 16 from rfl, pk_lDiv (by omega) (by decide) (by decide), e1]
      have q2 : lN (wN (a.take (k + 1))) - lN (wN (a.take k)) * 16 = lN (a.getD k 0) := by rw [← q1, show (16 : Int64) = lN 16 from rfl, pk_lRem (by omega) (by decide) (by decide), e2]
      refine rX10_spread_13 ?_
      simp only [bX10_spread_13, run, Nat.reduceAdd, lg, st1, st2, lkill, lset, fvv, sfv, kind3, cat1, retI, retA, List.length_cons, List.length_nil, true_and, and_true, or_true, true_or, qX10_spread, bI_s, show nI k < 0 ↔ False from ⟨nI_nlt (a := k) (b := 0) (by omega) (by omega), False.elim⟩, ne_eq, show ¬ (16 : Int64) = 0 by decide, q1, q2, lN_i, ek, hr, kk, e6, not_true_eq_false, not_false_eq_true, false_implies, true_and, and_true, tti]
      exact ⟨vp_in_nI (by omega) (by omega), n2⟩
  refine rX10_spread_0 ?_
  simp only [bX10_spread_0, run, Nat.reduceAdd, lg, st1, st2, lkill, lset, fvv, sfv, kind3, cat1, retI, retA, List.length_cons, List.length_nil, true_and, and_true, or_true, true_or, qX10_spread]
  refine sX10_spread_1 (e_mlen ha ?_)
  simp only [cont, Option.toList, List.cons_append, List.nil_append]
  have z := lp a.length h (Nat.le_refl _) rfl rfl Kp.rf fun i q1 q2 => by omega
  rw [wN_full] at z
  refine rX10_spread_4 ?_
  simp only [bX10_spread_4, run, Nat.reduceAdd, lg, st1, st2, lkill, lset, fvv, sfv, kind3, cat1, retI, retA, List.length_cons, List.length_nil, true_and, and_true, or_true, true_or, qX10_spread]
  exact z
theorem mk_11 {a b : Nat} : nI a * 11 + nI b = nI (a * 11 + b) := by rw [show (11 : Int32) = nI 11 from rfl, pk_mul, nI_add]
def RestM (h : AH) (f : Nat → Nat) (a b : List Nat) (i j : Nat) : Prop := zI h 116 (i * 11 + j) = nI (LL f a b i j)
theorem e_restAt {g : Gp} {f : Nat → Nat} {a b : List Nat} {i j : Nat} {h : AH} {Q : PQ} (ms : ModS h) (hi : i ≤ 10) (hj : j ≤ 10) (r : RestM h f a b i j) (hq : Q (.inl (some (vI (nI (LL f a b i j))))) h) : Ev g mX10_restAt [vR 99, vI (nI i), vI (nI j)] h Q := by
  refine nX10_restAt ?_
  have kk : (nI (i * 11 + j)).toNatClampNeg = i * 11 + j := nI_clamp (by omega)
  unfold RestM at r
  refine rX10_restAt_0 ?_
  simp only [bX10_restAt_0, run, Nat.reduceAdd, lg, st1, st2, lkill, lset, fvv, sfv, kind3, cat1, retI, retA, List.length_cons, List.length_nil, true_and, and_true, or_true, true_or, qX10_restAt, mk_11, ms.1, ms.R20, ms.K116, kk, r, not_true_eq_false, not_false_eq_true, false_implies, true_and, and_true, tti]
  exact ⟨vp_in_nI (by omega) (by omega), hq⟩
theorem LL_00 {f : Nat → Nat} {a b : List Nat} : LL f a b a.length b.length = 0 := by
  unfold LL
  rw [dropn, dropn]
  rfl
theorem LL_b {f : Nat → Nat} {a b : List Nat} {j : Nat} (h : j < b.length) : LL f a b a.length j = 4 + LL f a b a.length (j + 1) := by
  unfold LL
  rw [dropn]
  show 4 * (b.drop j).length = 4 + 4 * (b.drop (j + 1)).length
  rw [List.length_drop, List.length_drop]
  omega
theorem LL_a {f : Nat → Nat} {a b : List Nat} {i : Nat} (h : i < a.length) : LL f a b i b.length = 4 + LL f a b (i + 1) b.length := by
  unfold LL
  rw [dropn, lc_nil, lc_nil, List.length_drop, List.length_drop]
  omega
theorem LL_ab {f : Nat → Nat} {a b : List Nat} {i j : Nat} (hi : i < a.length) (hj : j < b.length) : LL f a b i j = min (4 + min (LL f a b (i + 1) j) (LL f a b i (j + 1))) (cst f (a.getD i 0) (b.getD j 0) + LL f a b (i + 1) (j + 1)) := by
  unfold LL
  rw [dropc hi, dropc hj, lc_cons]
