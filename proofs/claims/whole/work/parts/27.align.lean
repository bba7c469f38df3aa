/-! ===== two words beside each other ===== -/
def lcg (F : List Nat → Nat) (k : Nat) (f : Nat → Nat) (a : Nat) : List Nat → Nat
  | [] => 4 * k
  | b :: m => min (4 + min (F (b :: m)) (lcg F k f a m)) (cst f a b + F m)
def lc (f : Nat → Nat) : List Nat → List Nat → Nat
  | [], m => 4 * m.length
  | a :: l, m => lcg (lc f l) (l.length + 1) f a m
theorem lc_nil {f : Nat → Nat} : ∀ l, lc f l [] = 4 * l.length
  | [] => rfl
  | _ :: _ => rfl
theorem lc_cons {f : Nat → Nat} {a b : Nat} {l m : List Nat} : lc f (a :: l) (b :: m) = min (4 + min (lc f l (b :: m)) (lc f (a :: l) m)) (cst f a b + lc f l m) := rfl
theorem lc_le {f : Nat → Nat} : ∀ (l m : List Nat), lc f l m ≤ 4 * (l.length + m.length)
  | [], m => by simp [lc]
  | a :: l, [] => by simp [lc, lcg]
  | a :: l, b :: m => by
    rw [lc_cons]
    have := lc_le (f := f) l (b :: m)
    have h1 : min (lc f l (b :: m)) (lc f (a :: l) m) ≤ lc f l (b :: m) := Nat.min_le_left _ _
    have h2 : min (4 + min (lc f l (b :: m)) (lc f (a :: l) m)) (cst f a b + lc f l m) ≤ 4 + min (lc f l (b :: m)) (lc f (a :: l) m) := Nat.min_le_left _ _
    simp only [List.length_cons] at *
    omega
theorem pop_le : ∀ n x, pop n x ≤ n
  | 0, _ => Nat.le_refl _
  | n + 1, x => by have := pop_le n (x / 2); unfold pop; omega
theorem cst_le {f : Nat → Nat} {s t : Nat} : cst f s t ≤ 7 := by
  unfold cst
  split
  · omega
  · have := pop_le 6 (f s ^^^ f t); omega
theorem dropc {a : List Nat} {i : Nat} (h : i < a.length) : a.drop i = a.getD i 0 :: a.drop (i + 1) := by
  rw [List.drop_eq_getElem_cons h, List.getD_eq_getElem?_getD, List.getElem?_eq_getElem h]
  rfl
theorem dropn {a : List Nat} : a.drop a.length = [] := List.drop_length
def AlS (h : AH) : Prop := zK h 48 = (1, 1) ∧ zR h 48 0 = 5 ∧ zR h 48 1 = 49 ∧ zR h 48 2 = 50 ∧ zR h 48 5 = 51 ∧ zR h 48 6 = 63 ∧ zR h 48 7 = 64 ∧ zK h 49 = (2, 10) ∧ zK h 50 = (2, 10) ∧ zK h 51 = (8, 11) ∧ zK h 63 = (2, 20) ∧ zK h 64 = (2, 20) ∧ ∀ i, i < 11 → zR h 51 i = 52 + i ∧ zK h (52 + i) = (2, 11)
def AlC (h : AH) (a b : List Nat) : Prop := zI h 48 3 = nI a.length ∧ zI h 48 4 = nI b.length ∧ (∀ i, i < a.length → zI h 49 i = nI (a.getD i 0)) ∧ ∀ i, i < b.length → zI h 50 i = nI (b.getD i 0)
def LL (f : Nat → Nat) (a b : List Nat) (i j : Nat) : Nat := lc f (a.drop i) (b.drop j)
theorem LL_le {f : Nat → Nat} {a b : List Nat} {i j : Nat} (ha : a.length ≤ 10) (hb : b.length ≤ 10) : LL f a b i j ≤ 80 := by
  have := lc_le (f := f) (a.drop i) (b.drop j)
  simp only [List.length_drop] at this
  unfold LL
  omega
def Rest (h : AH) (f : Nat → Nat) (a b : List Nat) (i j : Nat) : Prop := zI h (52 + i) j = nI (LL f a b i j)
theorem nI_min {a b : Nat} (ha : a < 2 ^ 31) (hb : b < 2 ^ 31) : (if nI b < nI a then nI b else nI a) = nI (min a b) := by
  by_cases h : b < a
  · rw [if_pos (nI_lt h ha)]; congr 1; omega
  · rw [if_neg (nI_nlt (by omega) hb)]; congr 1; omega
theorem e_spellOut {g : Gp} {r : Nat} {a : List Nat} {h : AH} {Q : PQ} (hr : zK h r = (2, 10)) (ha : Wok a) (hq : ∀ h', zK h' = zK h → zR h' = zR h → Kp (fun c => c = r) h h' → (∀ i, i < a.length → zI h' r i = nI (a.getD i 0)) → Q (.inl (some (vI (nI a.length)))) h') : Ev g mX0_spellOut [vL (eC a), vR r] h Q := by
  have ha1 := ha.1
  refine nX0_spellOut ?_
  refine rX0_spellOut_0 ?_
  simp only [bX0_spellOut_0, run, Nat.reduceAdd, lg, st1, st2, lkill, lset, fvv, sfv, kind3, cat1, retI, retA, List.length_cons, List.length_nil, true_and, and_true, or_true, true_or, qX0_spellOut]
  refine sX0_spellOut_1 (e_size ha ?_)
  simp only [cont, Option.toList, List.cons_append, List.nil_append]
  refine rX0_spellOut_4 ?_
  simp only [bX0_spellOut_4, run, Nat.reduceAdd, lg, st1, st2, lkill, lset, fvv, sfv, kind3, cat1, retI, retA, List.length_cons, List.length_nil, true_and, and_true, or_true, true_or, qX0_spellOut, hr]
  refine ⟨by decide, sX0_spellOut_6 ?_⟩
  rw [nI_min (by omega) (by omega), Nat.min_eq_left (by omega)]
  have lp : ∀ d p h2, p + d = a.length → zK h2 = zK h → zR h2 = zR h → Kp (fun c => c = r) h h2 → (∀ i, i < p → zI h2 r i = nI (a.getD i 0)) → Ex g mX0_spellOut 13 [vL (eC a), vU, vR r, vI (nI a.length), vI (nI p)] [] h2 (0, 0) Q := by
    intro d
    induction d with
    | zero =>
      intro p h2 hn ek er kp z
      have e : p = a.length := by omega
      subst e
      refine rX0_spellOut_13 ?_
      simp only [bX0_spellOut_13, run, Nat.reduceAdd, lg, st1, st2, lkill, lset, fvv, sfv, kind3, cat1, retI, retA, List.length_cons, List.length_nil, true_and, and_true, or_true, true_or, qX0_spellOut, show nI a.length ≤ nI a.length ↔ True from ⟨fun _ => trivial, fun _ => nI_le (Nat.le_refl _) (by omega)⟩, not_true_eq_false, not_false_eq_true, false_implies, true_and, and_true, tti]
      refine rX0_spellOut_35 ?_
      simp only [bX0_spellOut_35, run, Nat.reduceAdd, lg, st1, st2, lkill, lset, fvv, sfv, kind3, cat1, retI, retA, List.length_cons, List.length_nil, true_and, and_true, or_true, true_or, qX0_spellOut]
      exact hq _ ek er kp z
    | succ d ih =>
      intro p h2 hn ek er kp z
      refine rX0_spellOut_13 ?_
      simp only [bX0_spellOut_13, run, Nat.reduceAdd, lg, st1, st2, lkill, lset, fvv, sfv, kind3, cat1, retI, retA, List.length_cons, List.length_nil, true_and, and_true, or_true, true_or, qX0_spellOut, show nI a.length ≤ nI p ↔ False from ⟨nI_ge (by omega) (by omega), False.elim⟩, not_true_eq_false, not_false_eq_true, false_implies, true_and, and_true, tti]
      refine sX0_spellOut_25 (e_at ha (by omega) ?_)
      simp only [cont, Option.toList, List.cons_append, List.nil_append]
      refine rX0_spellOut_28 ?_
      simp only [bX0_spellOut_28, run, Nat.reduceAdd, lg, st1, st2, lkill, lset, fvv, sfv, kind3, cat1, retI, retA, List.length_cons, List.length_nil, true_and, and_true, or_true, true_or, qX0_spellOut, ek, hr, nI_clamp (show p < 2 ^ 31 by omega), not_true_eq_false, not_false_eq_true, false_implies, true_and, and_true, tti]
      rw [nI_1]
      refine ⟨vp_in_nI (by omega) (by omega), ih (p + 1) _ (by omega) ek er (kp.tr (Kp.sI rfl)) fun i hi => ?_⟩
      rw [zI_sI]
      by_cases e : i = p
      · rw [e, up1_s]
      · rw [up1_n _ _ e]; exact z i (by omega)
  refine rX0_spellOut_9 ?_
  simp only [bX0_spellOut_9, run, Nat.reduceAdd, lg, st1, st2, lkill, lset, fvv, sfv, kind3, cat1, retI, retA, List.length_cons, List.length_nil, true_and, and_true, or_true, true_or, qX0_spellOut]
  exact lp _ 0 h (Nat.zero_add _) rfl rfl Kp.rf fun i hi => absurd hi (Nat.not_lt_zero _)
theorem e_pairFrom {g : Gp} {f : Nat → Nat} {a b : List Nat} {i j : Nat} {h : AH} {Q : PQ} (hs : Sn h f) (hx : AlS h) (hc : AlC h a b) (ha : Wok a) (hb : Wok b) (hi : i < a.length) (hj : j < b.length) (hr : Rest h f a b (i + 1) (j + 1)) (hq : Q (.inl (some (vI (nI (cst f (a.getD i 0) (b.getD j 0) + LL f a b (i + 1) (j + 1)))))) h) : Ev g mX0_pairFrom [vR 48, vI (nI i), vI (nI j)] h Q := by
  obtain ⟨n1, n2, n3, n4, n5, n6⟩ := hs
  obtain ⟨x1, x2, x3, x4, x5, x6, x7, x8, x9, x10, x11, x12, x13⟩ := hx
  obtain ⟨c1, c2, c3, c4⟩ := hc
  have ha1 := ha.1
  have hb1 := hb.1
  have hat := ha.at i
  have hbt := hb.at j
  obtain ⟨s1, s2, s3, s4, s5⟩ := n6 _ hat
  obtain ⟨y1, y2⟩ := x13 (i + 1) (by omega)
  unfold Rest at hr
  refine nX0_pairFrom ?_
  refine rX0_pairFrom_0 ?_
  simp only [bX0_pairFrom_0, run, Nat.reduceAdd, lg, st1, st2, lkill, lset, fvv, sfv, kind3, cat1, retI, retA, List.length_cons, List.length_nil, true_and, and_true, or_true, true_or, qX0_pairFrom, nI_1, x1, x2, x3, x4, x5, n1, n3, n5, x8, x9, x10, nI_clamp (show i < 2 ^ 31 by omega), nI_clamp (show j < 2 ^ 31 by omega), nI_clamp (show i + 1 < 2 ^ 31 by omega), nI_clamp (show j + 1 < 2 ^ 31 by omega), c3 i hi, c4 j hj, nI_clamp (show a.getD i 0 < 2 ^ 31 by omega), nI_clamp (show b.getD j 0 < 2 ^ 31 by omega), s1, s2, s5 _ hbt, y1, y2, hr, nI_add, not_true_eq_false, not_false_eq_true, false_implies, true_and, and_true, tti]
  exact ⟨vp_in_nI (by omega) (by omega), vp_in_nI hat (by omega), vp_in_nI (by omega) (by omega), vp_in_nI hbt (by omega), vp_in_nI (by omega) (by omega), vp_in_nI (by omega) (by omega), hq⟩
theorem e_leastFrom {g : Gp} {f : Nat → Nat} {a b : List Nat} {i j : Nat} {h : AH} {Q : PQ} (hs : Sn h f) (hx : AlS h) (hc : AlC h a b) (ha : Wok a) (hb : Wok b) (hi : i ≤ a.length) (hj : j ≤ b.length) (hr1 : i < a.length → Rest h f a b (i + 1) j) (hr2 : i < a.length → j < b.length → Rest h f a b i (j + 1) ∧ Rest h f a b (i + 1) (j + 1)) (hq : Q (.inl (some (vI (nI (LL f a b i j))))) h) : Ev g mX0_leastFrom [vR 48, vI (nI i), vI (nI j)] h Q := by
  have hx0 := hx
  have hc0 := hc
  obtain ⟨x1, x2, x3, x4, x5, x6, x7, x8, x9, x10, x11, x12, x13⟩ := hx
  obtain ⟨c1, c2, c3, c4⟩ := hc
  have ha1 := ha.1
  have hb1 := hb.1
  refine nX0_leastFrom ?_
  by_cases e1 : i = a.length
  · subst e1
    have e : LL f a b a.length j = 4 * (b.length - j) := by unfold LL; rw [dropn]; simp [lc]
    rw [e] at hq
    refine rX0_leastFrom_0 ?_
    simp only [bX0_leastFrom_0, run, Nat.reduceAdd, lg, st1, st2, lkill, lset, fvv, sfv, kind3, cat1, retI, retA, List.length_cons, List.length_nil, true_and, and_true, or_true, true_or, qX0_leastFrom, x1, c1, c2, not_true_eq_false, not_false_eq_true, false_implies, true_and, and_true, tti]
    rw [pk_sub hj, show (4 : Int32) = nI 4 from rfl, pk_mul]
    exact hq
  · by_cases e2 : j = b.length
    · subst e2
      have e : LL f a b i b.length = 4 * (a.length - i) := by unfold LL; rw [dropn, lc_nil]; simp
      rw [e] at hq
      refine rX0_leastFrom_0 ?_
      simp only [bX0_leastFrom_0, run, Nat.reduceAdd, lg, st1, st2, lkill, lset, fvv, sfv, kind3, cat1, retI, retA, List.length_cons, List.length_nil, true_and, and_true, or_true, true_or, qX0_leastFrom, x1, c1, c2, show nI i = nI a.length ↔ False from ⟨fun q => e1 ((nI_eq (by omega) (by omega)).mp q), False.elim⟩, not_true_eq_false, not_false_eq_true, false_implies, true_and, and_true, tti]
      refine rX0_leastFrom_17 ?_
      simp only [bX0_leastFrom_17, run, Nat.reduceAdd, lg, st1, st2, lkill, lset, fvv, sfv, kind3, cat1, retI, retA, List.length_cons, List.length_nil, true_and, and_true, or_true, true_or, qX0_leastFrom, x1, c1, c2, not_true_eq_false, not_false_eq_true, false_implies, true_and, and_true, tti]
      rw [pk_sub hi, show (4 : Int32) = nI 4 from rfl, pk_mul]
      exact hq
    · have hi2 : i < a.length := by omega
      have hj2 : j < b.length := by omega
      have r1 := hr1 hi2
      obtain ⟨r2, r3⟩ := hr2 hi2 hj2
      have r1' := r1
      have r2' := r2
      unfold Rest at r1 r2
      obtain ⟨y1, y2⟩ := x13 (i + 1) (by omega)
      obtain ⟨y3, y4⟩ := x13 i (by omega)
      have l1 := LL_le (f := f) (i := i + 1) (j := j) ha1 hb1
      have l2 := LL_le (f := f) (i := i) (j := j + 1) ha1 hb1
      have l3 := LL_le (f := f) (i := i + 1) (j := j + 1) ha1 hb1
      have l4 := cst_le (f := f) (s := a.getD i 0) (t := b.getD j 0)
      refine rX0_leastFrom_0 ?_
      simp only [bX0_leastFrom_0, run, Nat.reduceAdd, lg, st1, st2, lkill, lset, fvv, sfv, kind3, cat1, retI, retA, List.length_cons, List.length_nil, true_and, and_true, or_true, true_or, qX0_leastFrom, x1, c1, c2, show nI i = nI a.length ↔ False from ⟨fun q => e1 ((nI_eq (by omega) (by omega)).mp q), False.elim⟩, not_true_eq_false, not_false_eq_true, false_implies, true_and, and_true, tti]
      refine rX0_leastFrom_17 ?_
      simp only [bX0_leastFrom_17, run, Nat.reduceAdd, lg, st1, st2, lkill, lset, fvv, sfv, kind3, cat1, retI, retA, List.length_cons, List.length_nil, true_and, and_true, or_true, true_or, qX0_leastFrom, x1, c1, c2, show nI j = nI b.length ↔ False from ⟨fun q => e2 ((nI_eq (by omega) (by omega)).mp q), False.elim⟩, not_true_eq_false, not_false_eq_true, false_implies, true_and, and_true, tti]
      refine rX0_leastFrom_34 ?_
      simp only [bX0_leastFrom_34, run, Nat.reduceAdd, lg, st1, st2, lkill, lset, fvv, sfv, kind3, cat1, retI, retA, List.length_cons, List.length_nil, true_and, and_true, or_true, true_or, qX0_leastFrom, nI_1, x1, x5, x10, nI_clamp (show i < 2 ^ 31 by omega), nI_clamp (show j < 2 ^ 31 by omega), nI_clamp (show i + 1 < 2 ^ 31 by omega), nI_clamp (show j + 1 < 2 ^ 31 by omega), y1, y2, y3, y4, r1, r2, not_true_eq_false, not_false_eq_true, false_implies, true_and, and_true, tti]
      refine ⟨vp_in_nI (by omega) (by omega), vp_in_nI (by omega) (by omega), vp_in_nI (by omega) (by omega), vp_in_nI (by omega) (by omega), sX0_leastFrom_55 ?_⟩
      rw [nI_min (by omega) (by omega)]
      refine rX0_leastFrom_58 ?_
      simp only [bX0_leastFrom_58, run, Nat.reduceAdd, lg, st1, st2, lkill, lset, fvv, sfv, kind3, cat1, retI, retA, List.length_cons, List.length_nil, true_and, and_true, or_true, true_or, qX0_leastFrom, show (4 : Int32) = nI 4 from rfl, nI_add]
      refine sX0_leastFrom_64 x1 (e_pairFrom hs hx0 hc0 ha hb hi2 hj2 r3 ?_)
      simp only [cont, Option.toList, List.cons_append, List.nil_append]
      refine sX0_leastFrom_67 ?_
      rw [nI_min (by omega) (by omega)]
      have e : LL f a b i j = min (4 + min (LL f a b (i + 1) j) (LL f a b i (j + 1))) (cst f (a.getD i 0) (b.getD j 0) + LL f a b (i + 1) (j + 1)) := by
        unfold LL
        rw [dropc hi2, dropc hj2, lc_cons]
      rw [← e]
      refine rX0_leastFrom_70 ?_
      simp only [bX0_leastFrom_70, run, Nat.reduceAdd, lg, st1, st2, lkill, lset, fvv, sfv, kind3, cat1, retI, retA, List.length_cons, List.length_nil, true_and, and_true, or_true, true_or, qX0_leastFrom]
      exact hq
theorem bI_dec (n : Nat) : bI (n + 1) + -1 = bI n := by
  rw [bI_s]
  unfold bI
  rw [Int32.sub_eq_add_neg]
theorem bI_neg {n : Nat} (h : n < 2 ^ 31) : bI n < 0 ↔ n = 0 := by
  cases n with
  | zero => exact ⟨fun _ => rfl, fun _ => by decide⟩
  | succ n => rw [bI_s]; exact ⟨fun q => absurd q (nI_pos (by omega)), fun q => absurd q (by omega)⟩
theorem AlS.eq {h h' : AH} (ek : zK h' = zK h) (er : zR h' = zR h) (hx : AlS h) : AlS h' := by
  unfold AlS
  rw [ek, er]
  exact hx
theorem e_weigh {g : Gp} {f : Nat → Nat} {a b : List Nat} {h : AH} {Q : PQ} (hs : Sn h f) (hx : AlS h) (ha : Wok a) (hb : Wok b)
    (hq : ∀ h', zK h' = zK h → zR h' = zR h → Kp (fun c => 48 ≤ c ∧ c ≤ 62) h h' → AlC h' a b → (∀ i j, i ≤ a.length → j ≤ b.length → Rest h' f a b i j) → Q (.inl (some (vI (nI (lc f a b))))) h') : Ev g mX0_weigh [vR 48, vL (eC a), vL (eC b)] h Q := by
  have ha1 := ha.1
  have hb1 := hb.1
  refine nX0_weigh ?_
  refine Ex.wf (fun w => ?_)
  have hx0 := hx
  obtain ⟨x1, x2, x3, x4, x5, x6, x7, x8, x9, x10, x11, x12, x13⟩ := hx
  refine rX0_weigh_0 ?_
  simp only [bX0_weigh_0, run, Nat.reduceAdd, lg, st1, st2, lkill, lset, fvv, sfv, kind3, cat1, retI, retA, List.length_cons, List.length_nil, true_and, and_true, or_true, true_or, qX0_weigh, x1, x3, not_true_eq_false, not_false_eq_true, false_implies, true_and, and_true, tti]
  refine sX0_weigh_6 (e_spellOut x8 ha fun h1 k1 r1 kp1 z1 => ?_)
  simp only [cont, Option.toList, List.cons_append, List.nil_append]
  refine rX0_weigh_9 ?_
  simp only [bX0_weigh_9, run, Nat.reduceAdd, lg, st1, st2, lkill, lset, fvv, sfv, kind3, cat1, retI, retA, List.length_cons, List.length_nil, true_and, and_true, or_true, true_or, qX0_weigh, k1, r1, kI, rI, x1, x4, not_true_eq_false, not_false_eq_true, false_implies, true_and, and_true, tti]
  refine sX0_weigh_18 (e_spellOut (by rw [kI, k1]; exact x9) hb fun h2 k2 r2 kp2 z2 => ?_)
  simp only [cont, Option.toList, List.cons_append, List.nil_append]
  rw [kI] at k2
  rw [rI] at r2
  have kp12 : Kp (fun c => 48 ≤ c ∧ c ≤ 62) h (sI h2 48 4 (nI b.length)) := (((kp1.mono fun a _ e => ⟨by omega, by omega⟩).tr (Kp.sI (a := 48) (k := 3) (v := nI a.length) ⟨by omega, by omega⟩)).tr (kp2.mono fun a _ e => ⟨by omega, by omega⟩)).tr (Kp.sI ⟨by omega, by omega⟩)
  have w1 : ∀ {c}, zI h1 c = zI h1 c := rfl
  have i48 : zI h2 48 = up1 (zI h1 48) 3 (nI a.length) := by
    have := (kp2.2.2 48 (by show 48 < zN h1; exact Nat.lt_of_lt_of_le (w.lt x1 (by decide)) kp1.1) (by decide)).1
    rw [this, zI_sI]
  have i49 : ∀ i, i < a.length → zI h2 49 i = nI (a.getD i 0) := fun i hi => by
    have := (kp2.2.2 49 (by show 49 < zN h1; exact Nat.lt_of_lt_of_le (w.lt x8 (by decide)) kp1.1) (by decide)).1
    rw [this]
    rw [zI_n (by decide)]; exact z1 i hi
  have hc : AlC (sI h2 48 4 (nI b.length)) a b := by
    refine ⟨?_, ?_, fun i hi => ?_, fun i hi => ?_⟩
    · rw [zI_sI, up1_n _ _ (by decide), i48, up1_s]
    · rw [zI_sI, up1_s]
    · rw [zI_n (by decide)]; exact i49 i hi
    · rw [zI_n (by decide)]; exact z2 i hi
  have ek : zK (sI h2 48 4 (nI b.length)) = zK h := by rw [kI, k2, k1]
  have er : zR (sI h2 48 4 (nI b.length)) = zR h := by rw [rI, r2, r1]
  generalize hh3 : sI h2 48 4 (nI b.length) = h3 at hc ek er kp12
  have inner : ∀ n i h4, i + 1 = n → i ≤ a.length → zK h4 = zK h → zR h4 = zR h → Kp (fun c => 48 ≤ c ∧ c ≤ 62) h h4 → AlC h4 a b → (∀ i j, n ≤ i → i ≤ a.length → j ≤ b.length → Rest h4 f a b i j) →
      (∀ h5, zK h5 = zK h → zR h5 = zR h → Kp (fun c => 48 ≤ c ∧ c ≤ 62) h h5 → AlC h5 a b → (∀ i j, n ≤ i + 1 → i ≤ a.length → j ≤ b.length → Rest h5 f a b i j) → ∀ y, Ex g mX0_weigh 70 [vR 48, vL (eC a), vU, vL (eC b), vU, vI (nI i), y] [] h5 (0, 0) Q) →
      ∀ d k h5, k = d → k ≤ b.length + 1 → zK h5 = zK h → zR h5 = zR h → Kp (fun c => 48 ≤ c ∧ c ≤ 62) h h5 → AlC h5 a b → (∀ i j, n ≤ i → i ≤ a.length → j ≤ b.length → Rest h5 f a b i j) → (∀ j, k ≤ j → j ≤ b.length → Rest h5 f a b i j) → Ex g mX0_weigh 41 [vR 48, vL (eC a), vU, vL (eC b), vU, vI (nI i), vI (bI k)] [] h5 (0, 0) Q := by
    intro n i h4 hn hi _ _ _ _ _ out d
    induction d with
    | zero =>
      intro k h5 hk hkb ek5 er5 kp5 hc5 hr5 hi5
      subst hk
      refine rX0_weigh_41 ?_
      simp only [bX0_weigh_41, run, Nat.reduceAdd, lg, st1, st2, lkill, lset, fvv, sfv, kind3, cat1, retI, retA, List.length_cons, List.length_nil, true_and, and_true, or_true, true_or, qX0_weigh, show bI 0 < 0 ↔ True from ⟨fun _ => trivial, fun _ => by decide⟩, not_true_eq_false, not_false_eq_true, false_implies, true_and, and_true, tti]
      refine out h5 ek5 er5 kp5 hc5 (fun i' j q1 q2 q3 => ?_) _
      by_cases e : n ≤ i'
      · exact hr5 i' j e q2 q3
      · have : i' = i := by omega
        rw [this]
        exact hi5 j (Nat.zero_le _) q3
    | succ d ih =>
      intro k h5 hk hkb ek5 er5 kp5 hc5 hr5 hi5
      subst hk
      obtain ⟨y1, y2⟩ := x13 i (by omega)
      have hx5 : AlS h5 := hx0.eq ek5 er5
      refine rX0_weigh_41 ?_
      simp only [bX0_weigh_41, run, Nat.reduceAdd, lg, st1, st2, lkill, lset, fvv, sfv, kind3, cat1, retI, retA, List.length_cons, List.length_nil, true_and, and_true, or_true, true_or, qX0_weigh, show bI (d + 1) < 0 ↔ False from ⟨fun q => absurd ((bI_neg (by omega)).mp q) (by omega), False.elim⟩, ek5, er5, x1, x5, x10, y1, nI_clamp (show i < 2 ^ 31 by omega), not_true_eq_false, not_false_eq_true, false_implies, true_and, and_true, tti]
      refine ⟨vp_in_nI (by omega) (by omega), ?_⟩
      rw [bI_s]
      refine sX0_weigh_60 hx5.1 (e_leastFrom (hs.kp w kp5 fun a q1 q2 q3 => by omega) hx5 hc5 ha hb hi (by omega) (fun q => hr5 _ _ (by omega) (by omega) (by omega)) (fun q1 q2 => ⟨hi5 _ (Nat.le_refl _) (by omega), hr5 _ _ (by omega) (by omega) (by omega)⟩) ?_)
      simp only [cont, Option.toList, List.cons_append, List.nil_append]
      have e6 : bI d = nI d + -1 := by rw [← bI_s d]; exact (bI_dec d).symm
      refine rX0_weigh_63 ?_
      simp only [bX0_weigh_63, run, Nat.reduceAdd, lg, st1, st2, lkill, lset, fvv, sfv, kind3, cat1, retI, retA, List.length_cons, List.length_nil, true_and, and_true, or_true, true_or, qX0_weigh, ek5, y2, nI_clamp (show d < 2 ^ 31 by omega), ← e6, not_true_eq_false, not_false_eq_true, false_implies, true_and, and_true, tti]
      refine ⟨vp_in_nI (by omega) (by omega), ih d _ rfl (by omega) ek5 er5 (kp5.tr (Kp.sI ⟨by omega, by omega⟩)) ?_ (fun i' j q1 q2 q3 => ?_) fun j q1 q2 => ?_⟩
      · obtain ⟨g1, g2, g3, g4⟩ := hc5
        have ii : ∀ c, c ≠ 52 + i → zI (sI h5 (52 + i) d (nI (LL f a b i d))) c = zI h5 c := fun c hc => up1_n (zI h5) _ hc
        exact ⟨by rw [ii _ (by omega)]; exact g1, by rw [ii _ (by omega)]; exact g2, fun i hi => by rw [ii _ (by omega)]; exact g3 i hi, fun i hi => by rw [ii _ (by omega)]; exact g4 i hi⟩
      · unfold Rest
        rw [show zI (sI h5 (52 + i) d (nI (LL f a b i d))) (52 + i') = zI h5 (52 + i') from up1_n (zI h5) _ (by omega)]
        exact hr5 i' j q1 q2 q3
      · unfold Rest
        rw [zI_sI]
        by_cases e : j = d
        · rw [e, up1_s]
        · rw [up1_n _ _ e]
          exact hi5 j (by omega) q2
  have outer : ∀ n h4, n ≤ a.length + 1 → zK h4 = zK h → zR h4 = zR h → Kp (fun c => 48 ≤ c ∧ c ≤ 62) h h4 → AlC h4 a b → (∀ i j, n ≤ i → i ≤ a.length → j ≤ b.length → Rest h4 f a b i j) → ∀ y, Ex g mX0_weigh 30 [vR 48, vL (eC a), vU, vL (eC b), vU, vI (bI n), y] [] h4 (0, 0) Q := by
    intro n
    induction n with
    | zero =>
      intro h4 hn ek4 er4 kp4 hc4 hr4 y
      refine rX0_weigh_30 ?_
      simp only [bX0_weigh_30, run, Nat.reduceAdd, lg, st1, st2, lkill, lset, fvv, sfv, kind3, cat1, retI, retA, List.length_cons, List.length_nil, true_and, and_true, or_true, true_or, qX0_weigh, show bI 0 < 0 ↔ True from ⟨fun _ => trivial, fun _ => by decide⟩, not_true_eq_false, not_false_eq_true, false_implies, true_and, and_true, tti]
      obtain ⟨y1, y2⟩ := x13 0 (by omega)
      have r0 := hr4 0 0 (Nat.le_refl _) (Nat.zero_le _) (Nat.zero_le _)
      unfold Rest at r0
      have e0 : LL f a b 0 0 = lc f a b := rfl
      rw [e0] at r0
      refine rX0_weigh_76 ?_
      simp only [bX0_weigh_76, run, Nat.reduceAdd, lg, st1, st2, lkill, lset, fvv, sfv, kind3, cat1, retI, retA, List.length_cons, List.length_nil, true_and, and_true, or_true, true_or, qX0_weigh, ek4, er4, x1, x5, x10, show (0 : Int32).toNatClampNeg = 0 by decide, y1, y2, r0, not_true_eq_false, not_false_eq_true, false_implies, true_and, and_true, tti]
      exact ⟨vp_0 (by decide) (by decide), vp_0 (by decide) (by decide), hq _ ek4 er4 kp4 hc4 fun i j => hr4 i j (Nat.zero_le _)⟩
    | succ n ih =>
      intro h4 hn ek4 er4 kp4 hc4 hr4 y
      refine rX0_weigh_30 ?_
      simp only [bX0_weigh_30, run, Nat.reduceAdd, lg, st1, st2, lkill, lset, fvv, sfv, kind3, cat1, retI, retA, List.length_cons, List.length_nil, true_and, and_true, or_true, true_or, qX0_weigh, show bI (n + 1) < 0 ↔ False from ⟨fun q => absurd ((bI_neg (by omega)).mp q) (by omega), False.elim⟩, ek4, x1, hc4.2.1, not_true_eq_false, not_false_eq_true, false_implies, true_and, and_true, tti]
      rw [bI_s, ← bI_s b.length]
      refine inner (n + 1) n h4 rfl (by omega) ek4 er4 kp4 hc4 hr4 (fun h5 ek5 er5 kp5 hc5 hr5 y => ?_) _ _ h4 rfl (Nat.le_refl _) ek4 er4 kp4 hc4 hr4 fun j q1 q2 => absurd q1 (by omega)
      refine rX0_weigh_70 ?_
      simp only [bX0_weigh_70, run, Nat.reduceAdd, lg, st1, st2, lkill, lset, fvv, sfv, kind3, cat1, retI, retA, List.length_cons, List.length_nil, true_and, and_true, or_true, true_or, qX0_weigh]
      have e6 : nI n + -1 = bI n := by rw [← bI_s n]; exact bI_dec n
      rw [e6]
      exact ih h5 (by omega) ek5 er5 kp5 hc5 (fun i j q1 => hr5 i j (by omega)) y
  refine rX0_weigh_21 ?_
  simp only [bX0_weigh_21, run, Nat.reduceAdd, lg, st1, st2, lkill, lset, fvv, sfv, kind3, cat1, retI, retA, List.length_cons, List.length_nil, true_and, and_true, or_true, true_or, qX0_weigh, kI, k2, k1, x1, not_true_eq_false, not_false_eq_true, false_implies, true_and, and_true, tti]
  rw [hh3, hc.1, ← bI_s]
  exact outer _ h3 (Nat.le_refl _) ek er kp12 hc (fun i j q1 q2 => absurd q1 (by omega)) _
theorem e_takesPair {g : Gp} {f : Nat → Nat} {a b : List Nat} {i j : Nat} {h : AH} {Q : PQ} (hs : Sn h f) (hx : AlS h) (hc : AlC h a b) (ha : Wok a) (hb : Wok b) (hi : i ≤ a.length) (hj : j ≤ b.length) (hr : ∀ i j, i ≤ a.length → j ≤ b.length → Rest h f a b i j) (hq : Q (.inl (some (vI (if i < a.length ∧ j < b.length ∧ cst f (a.getD i 0) (b.getD j 0) + LL f a b (i + 1) (j + 1) = LL f a b i j then 1 else 0)))) h) : Ev g mX0_takesPair [vR 48, vI (nI i), vI (nI j)] h Q := by
  have hx0 := hx
  have hc0 := hc
  obtain ⟨x1, x2, x3, x4, x5, x6, x7, x8, x9, x10, x11, x12, x13⟩ := hx
  obtain ⟨c1, c2, c3, c4⟩ := hc
  have ha1 := ha.1
  have hb1 := hb.1
  refine nX0_takesPair ?_
  have no : ¬ (i < a.length ∧ j < b.length ∧ cst f (a.getD i 0) (b.getD j 0) + LL f a b (i + 1) (j + 1) = LL f a b i j) → Ex g mX0_takesPair 37 [vR 48, vI (nI i), vI (nI j)] [] h (0, 0) Q := by
    intro h0
    rw [if_neg h0] at hq
    refine rX0_takesPair_37 ?_
    simp only [bX0_takesPair_37, run, Nat.reduceAdd, lg, st1, st2, lkill, lset, fvv, sfv, kind3, cat1, retI, retA, List.length_cons, List.length_nil, true_and, and_true, or_true, true_or, qX0_takesPair]
    exact hq
  refine rX0_takesPair_0 ?_
  simp only [bX0_takesPair_0, run, Nat.reduceAdd, lg, st1, st2, lkill, lset, fvv, sfv, kind3, cat1, retI, retA, List.length_cons, List.length_nil, true_and, and_true, or_true, true_or, qX0_takesPair, x1, c1, c2, not_true_eq_false, not_false_eq_true, false_implies, true_and, and_true, tti]
  refine ⟨fun q => no fun z => nI_ge z.1 (by omega) q, fun q => ⟨fun q2 => no fun z => nI_ge z.2.1 (by omega) q2, fun q2 => ?_⟩⟩
  have i2 : i < a.length := Nat.lt_of_not_le fun z => q (nI_le z (by omega))
  have j2 : j < b.length := Nat.lt_of_not_le fun z => q2 (nI_le z (by omega))
  refine sX0_takesPair_19 x1 (e_pairFrom hs hx0 hc0 ha hb i2 j2 (hr _ _ (by omega) (by omega)) ?_)
  simp only [cont, Option.toList, List.cons_append, List.nil_append]
  obtain ⟨y1, y2⟩ := x13 i (by omega)
  have r0 := hr i j hi hj
  unfold Rest at r0
  have l1 := LL_le (f := f) (i := i + 1) (j := j + 1) ha1 hb1
  have l2 := LL_le (f := f) (i := i) (j := j) ha1 hb1
  have l4 := cst_le (f := f) (s := a.getD i 0) (t := b.getD j 0)
  refine rX0_takesPair_22 ?_
  simp only [bX0_takesPair_22, run, Nat.reduceAdd, lg, st1, st2, lkill, lset, fvv, sfv, kind3, cat1, retI, retA, List.length_cons, List.length_nil, true_and, and_true, or_true, true_or, qX0_takesPair, x1, x5, x10, y1, y2, nI_clamp (show i < 2 ^ 31 by omega), nI_clamp (show j < 2 ^ 31 by omega), r0, not_true_eq_false, not_false_eq_true, false_implies, true_and, and_true, tti]
  refine ⟨vp_in_nI (by omega) (by omega), vp_in_nI (by omega) (by omega), bn_c (fun z => no fun y => z (by rw [y.2.2])) fun z => ?_⟩
  rw [if_pos ⟨i2, j2, (nI_eq (by omega) (by omega)).mp z⟩] at hq
  exact hq
theorem e_takesFirst {g : Gp} {f : Nat → Nat} {a b : List Nat} {i j : Nat} {h : AH} {Q : PQ} (hx : AlS h) (hc : AlC h a b) (ha : Wok a) (hb : Wok b) (hi : i ≤ a.length) (hj : j ≤ b.length) (hr : ∀ i j, i ≤ a.length → j ≤ b.length → Rest h f a b i j) (hq : Q (.inl (some (vI (if i < a.length ∧ 4 + LL f a b (i + 1) j = LL f a b i j then 1 else 0)))) h) : Ev g mX0_takesFirstAlone [vR 48, vI (nI i), vI (nI j)] h Q := by
  obtain ⟨x1, x2, x3, x4, x5, x6, x7, x8, x9, x10, x11, x12, x13⟩ := hx
  obtain ⟨c1, c2, c3, c4⟩ := hc
  have ha1 := ha.1
  have hb1 := hb.1
  refine nX0_takesFirstAlone ?_
  have no : ¬ (i < a.length ∧ 4 + LL f a b (i + 1) j = LL f a b i j) → Ex g mX0_takesFirstAlone 35 [vR 48, vI (nI i), vI (nI j)] [] h (0, 0) Q := by
    intro h0
    rw [if_neg h0] at hq
    refine rX0_takesFirstAlone_35 ?_
    simp only [bX0_takesFirstAlone_35, run, Nat.reduceAdd, lg, st1, st2, lkill, lset, fvv, sfv, kind3, cat1, retI, retA, List.length_cons, List.length_nil, true_and, and_true, or_true, true_or, qX0_takesFirstAlone]
    exact hq
  by_cases i2 : i < a.length
  · obtain ⟨y1, y2⟩ := x13 i (by omega)
    obtain ⟨y3, y4⟩ := x13 (i + 1) (by omega)
    have r0 := hr i j hi hj
    have r1 := hr (i + 1) j i2 hj
    unfold Rest at r0 r1
    have l1 := LL_le (f := f) (i := i + 1) (j := j) ha1 hb1
    have l2 := LL_le (f := f) (i := i) (j := j) ha1 hb1
    refine rX0_takesFirstAlone_0 ?_
    simp only [bX0_takesFirstAlone_0, run, Nat.reduceAdd, lg, st1, st2, lkill, lset, fvv, sfv, kind3, cat1, retI, retA, List.length_cons, List.length_nil, true_and, and_true, or_true, true_or, qX0_takesFirstAlone, x1, c1, show nI a.length ≤ nI i ↔ False from ⟨nI_ge i2 (by omega), False.elim⟩, nI_1, x5, x10, y1, y2, y3, y4, nI_clamp (show i < 2 ^ 31 by omega), nI_clamp (show j < 2 ^ 31 by omega), nI_clamp (show i + 1 < 2 ^ 31 by omega), r0, r1, show (4 : Int32) = nI 4 from rfl, nI_add, not_true_eq_false, not_false_eq_true, false_implies, true_and, and_true, tti]
    refine ⟨vp_in_nI (by omega) (by omega), vp_in_nI (by omega) (by omega), vp_in_nI (by omega) (by omega), vp_in_nI (by omega) (by omega), bn_c (fun z => no fun y => z (by rw [y.2])) fun z => ?_⟩
    rw [if_pos ⟨i2, (nI_eq (by omega) (by omega)).mp z⟩] at hq
    exact hq
  · refine rX0_takesFirstAlone_0 ?_
    simp only [bX0_takesFirstAlone_0, run, Nat.reduceAdd, lg, st1, st2, lkill, lset, fvv, sfv, kind3, cat1, retI, retA, List.length_cons, List.length_nil, true_and, and_true, or_true, true_or, qX0_takesFirstAlone, x1, c1, show nI a.length ≤ nI i ↔ True from ⟨fun _ => trivial, fun _ => nI_le (by omega) (by omega)⟩, not_true_eq_false, not_false_eq_true, false_implies, true_and, and_true, tti]
    exact no fun q => i2 q.1
