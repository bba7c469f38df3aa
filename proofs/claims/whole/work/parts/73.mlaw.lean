/-! ===== the model's own laws ===== -/
theorem hi_lt {n : Nat} {x : Int32} (h : n + 1 < 2 ^ 31) : nI n < x ↔ nI (n + 1) ≤ x := by
  rw [Int32.lt_iff_toInt_lt, Int32.le_iff_toInt_le, nI_toInt (by omega), nI_toInt h]
  omega
theorem e_isIn {g : Gp} {x lo hi : Int32} {h : AH} {Q : PQ} (hq : Q (.inl (some (vI (bi (decide (¬ x < lo) && decide (¬ hi < x)))))) h) : Ev g mX10_isIn [vI x, vI lo, vI hi] h Q := by
  refine nX10_isIn ?_
  by_cases e1 : x < lo
  · rw [decide_eq_false (p := ¬ x < lo) (fun q => q e1)] at hq
    refine rX10_isIn_0 ?_
    simp only [bX10_isIn_0, run, Nat.reduceAdd, lg, st1, st2, lkill, lset, fvv, sfv, kind3, cat1, retI, retA, List.length_cons, List.length_nil, true_and, and_true, or_true, true_or, qX10_isIn, e1, not_true_eq_false, not_false_eq_true, false_implies, true_and, and_true, tti]
    refine rX10_isIn_14 ?_
    simp only [bX10_isIn_14, run, Nat.reduceAdd, lg, st1, st2, lkill, lset, fvv, sfv, kind3, cat1, retI, retA, List.length_cons, List.length_nil, true_and, and_true, or_true, true_or, qX10_isIn]
    exact hq
  · rw [decide_eq_true (p := ¬ x < lo) e1] at hq
    by_cases e2 : hi < x
    · rw [decide_eq_false (p := ¬ hi < x) (fun q => q e2)] at hq
      refine rX10_isIn_0 ?_
      simp only [bX10_isIn_0, run, Nat.reduceAdd, lg, st1, st2, lkill, lset, fvv, sfv, kind3, cat1, retI, retA, List.length_cons, List.length_nil, true_and, and_true, or_true, true_or, qX10_isIn, e1, e2, not_true_eq_false, not_false_eq_true, false_implies, true_and, and_true, tti]
      refine rX10_isIn_14 ?_
      simp only [bX10_isIn_14, run, Nat.reduceAdd, lg, st1, st2, lkill, lset, fvv, sfv, kind3, cat1, retI, retA, List.length_cons, List.length_nil, true_and, and_true, or_true, true_or, qX10_isIn]
      exact hq
    · rw [decide_eq_true (p := ¬ hi < x) e2] at hq
      refine rX10_isIn_0 ?_
      simp only [bX10_isIn_0, run, Nat.reduceAdd, lg, st1, st2, lkill, lset, fvv, sfv, kind3, cat1, retI, retA, List.length_cons, List.length_nil, true_and, and_true, or_true, true_or, qX10_isIn, e1, e2, not_true_eq_false, not_false_eq_true, false_implies, true_and, and_true, tti]
      exact hq
theorem e_isInB {g : Gp} {x : Int32} {n : Nat} {h : AH} {Q : PQ} (hn : n + 1 < 2 ^ 31) (hq : Q (.inl (some (vI (bi (inb x (n + 1)))))) h) : Ev g mX10_isIn [vI x, vI 0, vI (nI n)] h Q := by
  refine e_isIn ?_
  rw [show (decide (¬ x < 0) && decide (¬ nI n < x)) = inb x (n + 1) by unfold inb; rw [decide_eq_decide.mpr (not_congr (hi_lt hn))]]
  exact hq
theorem e_isInZ {g : Gp} {x : Int32} {n : Nat} {h : AH} {Q : PQ} (hn : n < 2 ^ 31) (hq : Q (.inl (some (vI (bi (inb x n))))) h) : Ev g mX10_isIn [vI x, vI 0, vI (nI n - 1)] h Q := by
  cases n with
  | zero =>
    refine e_isIn ?_
    rw [show (decide (¬ x < 0) && decide (¬ nI 0 - 1 < x)) = inb x 0 by
      unfold inb
      by_cases e : x < 0
      · rw [decide_eq_false (p := ¬ x < 0) (fun q => q e)]; rfl
      · have : nI 0 - 1 < x := by
          rw [show nI 0 - 1 = -1 by decide, Int32.lt_iff_toInt_lt]
          rw [Int32.lt_iff_toInt_lt] at e
          have h1 : ((-1 : Int32)).toInt = -1 := by decide
          have h2 : ((0 : Int32)).toInt = 0 := by decide
          omega
        have h2 : nI 0 ≤ x := by
          rw [Int32.le_iff_toInt_le]
          rw [Int32.lt_iff_toInt_lt] at e
          have h2 : ((0 : Int32)).toInt = 0 := by decide
          have h3 : (nI 0).toInt = 0 := by decide
          omega
        rw [decide_eq_false (p := ¬ nI 0 - 1 < x) (fun q => q this), decide_eq_false (p := ¬ nI 0 ≤ x) (fun q => q h2)]]
    exact hq
  | succ n =>
    rw [nI_pred]
    exact e_isInB hn hq
theorem bi_01 (b : Bool) : bi b = 0 ∨ bi b = 1 := by cases b <;> decide
theorem e_misSound {g : Gp} {x : Int32} {h : AH} {Q : PQ} (hq : Q (.inl (some (vI (bi (inb x 16))))) h) : Ev g mX10_isSound [vI x] h Q := by
  refine nX10_isSound ?_
  refine rX10_isSound_0 ?_
  simp only [bX10_isSound_0, run, Nat.reduceAdd, lg, st1, st2, lkill, lset, fvv, sfv, kind3, cat1, retI, retA, List.length_cons, List.length_nil, true_and, and_true, or_true, true_or, qX10_isSound]
  refine sX10_isSound_4 (e_isInB (n := 15) (by decide) ?_)
  simp only [cont, Option.toList, List.cons_append, List.nil_append]
  refine rX10_isSound_7 ?_
  simp only [bX10_isSound_7, run, Nat.reduceAdd, lg, st1, st2, lkill, lset, fvv, sfv, kind3, cat1, retI, retA, List.length_cons, List.length_nil, true_and, and_true, or_true, true_or, qX10_isSound]
  exact ⟨bi_01 _, hq⟩
theorem e_misMeaning {g : Gp} {x : Int32} {h : AH} {Q : PQ} (hq : Q (.inl (some (vI (bi (inb x 12))))) h) : Ev g mX10_isMeaning [vI x] h Q := by
  refine nX10_isMeaning ?_
  refine rX10_isMeaning_0 ?_
  simp only [bX10_isMeaning_0, run, Nat.reduceAdd, lg, st1, st2, lkill, lset, fvv, sfv, kind3, cat1, retI, retA, List.length_cons, List.length_nil, true_and, and_true, or_true, true_or, qX10_isMeaning]
  refine sX10_isMeaning_4 (e_isInB (n := 11) (by decide) ?_)
  simp only [cont, Option.toList, List.cons_append, List.nil_append]
  refine rX10_isMeaning_7 ?_
  simp only [bX10_isMeaning_7, run, Nat.reduceAdd, lg, st1, st2, lkill, lset, fvv, sfv, kind3, cat1, retI, retA, List.length_cons, List.length_nil, true_and, and_true, or_true, true_or, qX10_isMeaning]
  exact ⟨bi_01 _, hq⟩
theorem e_misLanguage {g : Gp} {x : Int32} {n : Nat} {h : AH} {Q : PQ} (ms : ModS h) (e4 : zI h 99 4 = nI n) (hn : n ≤ 10) (hq : Q (.inl (some (vI (bi (inb x n))))) h) : Ev g mX10_isLanguage [vR 99, vI x] h Q := by
  refine nX10_isLanguage ?_
  refine rX10_isLanguage_0 ?_
  simp only [bX10_isLanguage_0, run, Nat.reduceAdd, lg, st1, st2, lkill, lset, fvv, sfv, kind3, cat1, retI, retA, List.length_cons, List.length_nil, true_and, and_true, or_true, true_or, qX10_isLanguage, ms.1, e4, not_true_eq_false, not_false_eq_true, false_implies, true_and, and_true, tti]
  refine sX10_isLanguage_8 (e_isInZ (by omega) ?_)
  simp only [cont, Option.toList, List.cons_append, List.nil_append]
  refine rX10_isLanguage_11 ?_
  simp only [bX10_isLanguage_11, run, Nat.reduceAdd, lg, st1, st2, lkill, lset, fvv, sfv, kind3, cat1, retI, retA, List.length_cons, List.length_nil, true_and, and_true, or_true, true_or, qX10_isLanguage]
  exact ⟨bi_01 _, hq⟩
theorem bt_1 : ∀ i, i < 32 → i ≠ 0 → bt 1 i = false := by decide +kernel
theorem m_bit {n j : Nat} (hj : j < 31) : (nI n >>> (nI j &&& 31)) &&& 1 = 0 ↔ n.testBit j = false := by
  rw [← w_has (n := n) hj]
  have e : (nI n >>> (nI j &&& 31)) &&& 1 = ((nI n).toUInt32 >>> ((nI j).toUInt32 &&& Int32.toUInt32 31)).toInt32 &&& 1 := b_ext fun i hi => by
    rw [b_and, b_and]
    by_cases e : i = 0
    · subst e
      rw [b_sshr j (by omega) _ (by decide), b_ushr j (by omega), if_pos (by omega)]
    · rw [bt_1 i hi e, Bool.and_false, Bool.and_false]
  rw [e]
theorem e_isBeside {g : Gp} {n s : Nat} {E : Bool} {h : AH} {Q : PQ} (hs : s < 16) (hn : n < 131072) (hq : Q (.inl (some (vI (bi (n == 0 || n.testBit (if E then 16 else s)))))) h) : Ev g mX10_isBeside [vI (nI n), vI (bi E), vI (nI s)] h Q := by
  refine nX10_isBeside ?_
  have tl : ∀ j, j < 31 → (n == 0 || n.testBit (if E then 16 else s)) = n.testBit j → ((nI n >>> (nI j &&& 31)) &&& 1 = 0 → Q (.inl (some (vI 0))) h) ∧ (¬ (nI n >>> (nI j &&& 31)) &&& 1 = 0 → Q (.inl (some (vI 1))) h) := fun j hj e => by
    rw [e] at hq
    refine ⟨fun q => ?_, fun q => ?_⟩
    · rw [(m_bit hj).mp q] at hq; exact hq
    · rw [ts_nf (fun e => q ((m_bit hj).mpr e))] at hq; exact hq
  by_cases e0 : n = 0
  · subst e0
    refine rX10_isBeside_0 ?_
    simp only [bX10_isBeside_0, run, Nat.reduceAdd, lg, st1, st2, lkill, lset, fvv, sfv, kind3, cat1, retI, retA, List.length_cons, List.length_nil, true_and, and_true, or_true, true_or, qX10_isBeside, show nI 0 = 0 from rfl, not_true_eq_false, not_false_eq_true, false_implies, true_and, and_true, tti]
    refine rX10_isBeside_21 ?_
    simp only [bX10_isBeside_21, run, Nat.reduceAdd, lg, st1, st2, lkill, lset, fvv, sfv, kind3, cat1, retI, retA, List.length_cons, List.length_nil, true_and, and_true, or_true, true_or, qX10_isBeside]
    exact hq
  · have n0 : nI n = 0 ↔ False := ⟨fun q => e0 ((nI_eq (b := 0) (by omega) (by omega)).mp q), False.elim⟩
    have b0 : (n == 0) = false := beq_false_of_ne e0
    rw [b0, Bool.false_or] at tl
    cases E with
    | false =>
      obtain ⟨t1, t2⟩ := tl s (by omega) rfl
      refine rX10_isBeside_0 ?_
      simp only [bX10_isBeside_0, run, Nat.reduceAdd, lg, st1, st2, lkill, lset, fvv, sfv, kind3, cat1, retI, retA, List.length_cons, List.length_nil, true_and, and_true, or_true, true_or, qX10_isBeside, n0, show bi false = 0 from rfl, not_true_eq_false, not_false_eq_true, false_implies, true_and, and_true, tti]
      refine rX10_isBeside_14 ?_
      simp only [bX10_isBeside_14, run, Nat.reduceAdd, lg, st1, st2, lkill, lset, fvv, sfv, kind3, cat1, retI, retA, List.length_cons, List.length_nil, true_and, and_true, or_true, true_or, qX10_isBeside]
      refine ⟨fun q => ?_, fun q => t2 q⟩
      refine rX10_isBeside_25 ?_
      simp only [bX10_isBeside_25, run, Nat.reduceAdd, lg, st1, st2, lkill, lset, fvv, sfv, kind3, cat1, retI, retA, List.length_cons, List.length_nil, true_and, and_true, or_true, true_or, qX10_isBeside]
      exact t1 q
    | true =>
      obtain ⟨t1, t2⟩ := tl 16 (by omega) rfl
      refine rX10_isBeside_0 ?_
      simp only [bX10_isBeside_0, run, Nat.reduceAdd, lg, st1, st2, lkill, lset, fvv, sfv, kind3, cat1, retI, retA, List.length_cons, List.length_nil, true_and, and_true, or_true, true_or, qX10_isBeside, n0, show ¬ bi true = 0 by decide, not_true_eq_false, not_false_eq_true, false_implies, true_and, and_true, tti]
      refine ⟨fun q => ?_, fun q => t2 q⟩
      refine rX10_isBeside_25 ?_
      simp only [bX10_isBeside_25, run, Nat.reduceAdd, lg, st1, st2, lkill, lset, fvv, sfv, kind3, cat1, retI, retA, List.length_cons, List.length_nil, true_and, and_true, or_true, true_or, qX10_isBeside]
      exact t1 q
theorem wM_plus {w : List Nat} {t : Nat} (ht : t < 16) : wM w * 16 + (nI t).toInt64 = wM (w ++ [t]) := by
  unfold wM
  rw [show (16 : Int64) = lN 16 from rfl, nI_l (by omega), lN_mul, lN_add, wN_snoc]
theorem e_mturned {g : Gp} {f : Nat → Nat} {w : Lw} {s : Nat} {h : AH} {Q : PQ} (ms : ModS h) (sn : SnM h f) (hw : w.2.1 ≤ 22) (hs : s < 16) (hq : Q (.inl (some (vI (hI (her f w s))))) h) : Ev g mX10_turned [vR 99, vI (nI s), vI (bI w.2.1)] h Q := by
  refine nX10_turned ?_
  unfold her at hq
  cases hb : w.2.1 with
  | zero =>
    rw [hb] at hq
    refine rX10_turned_0 ?_
    simp only [bX10_turned_0, run, Nat.reduceAdd, lg, st1, st2, lkill, lset, fvv, sfv, kind3, cat1, retI, retA, List.length_cons, List.length_nil, true_and, and_true, or_true, true_or, qX10_turned, show bI 0 = -1 from bI_0, show (16 : Int32) ≤ -1 ↔ False by decide, not_true_eq_false, not_false_eq_true, false_implies, true_and, and_true, tti]
    exact hq
  | succ b =>
    rw [hb] at hq hw
    replace hq : Q (.inl (some (vI (hI (if b < 16 then some b else some (trn f s (b - 16))))))) h := hq
    rw [bI_s]
    by_cases hb2 : b < 16
    · rw [if_pos hb2] at hq
      refine rX10_turned_0 ?_
      simp only [bX10_turned_0, run, Nat.reduceAdd, lg, st1, st2, lkill, lset, fvv, sfv, kind3, cat1, retI, retA, List.length_cons, List.length_nil, true_and, and_true, or_true, true_or, qX10_turned, show (16 : Int32) ≤ nI b ↔ False from ⟨nI_ge (b := 16) hb2 (by omega), False.elim⟩, not_true_eq_false, not_false_eq_true, false_implies, true_and, and_true, tti]
      exact hq
    · rw [if_neg hb2] at hq
      obtain ⟨k, rfl⟩ : ∃ k, b = 16 + k := ⟨b - 16, by omega⟩
      rw [show 16 + k - 16 = k by omega] at hq
      have h7 := (sn s hs).1
      have lp : ∀ d j, j + d = 16 → (∀ i, i < j → (f i == f s ^^^ 2 ^ k) = false) → Ex g mX10_turned 10 [vR 99, vI (nI s), vI (nI (16 + k)), vI (nI j)] [] h (0, 0) Q := by
        intro d
        induction d with
        | zero =>
          intro j hj hno
          have e : j = 16 := by omega
          subst e
          refine rX10_turned_10 ?_
          simp only [bX10_turned_10, run, Nat.reduceAdd, lg, st1, st2, lkill, lset, fvv, sfv, kind3, cat1, retI, retA, List.length_cons, List.length_nil, true_and, and_true, or_true, true_or, qX10_turned, show (16 : Int32) ≤ nI 16 ↔ True by decide, not_true_eq_false, not_false_eq_true, false_implies, true_and, and_true, tti]
          refine rX10_turned_46 ?_
          simp only [bX10_turned_46, run, Nat.reduceAdd, lg, st1, st2, lkill, lset, fvv, sfv, kind3, cat1, retI, retA, List.length_cons, List.length_nil, true_and, and_true, or_true, true_or, qX10_turned]
          have : ¬ fa_first (fun o => f o == f s ^^^ 2 ^ k) 16 < 16 := fun hlt => by
            have y := fa_first_yes (fun o => f o == f s ^^^ 2 ^ k) 16 hlt
            rw [hno _ (by omega)] at y
            exact absurd y (by decide)
          rw [trn, if_neg this] at hq
          exact hq
        | succ d ih =>
          intro j hj hno
          have h9 := sn j (by omega)
          have hlt : f s ^^^ 2 ^ k < 64 := Nat.xor_lt_two_pow (n := 6) h7 (Nat.pow_lt_pow_right (by decide) (by omega))
          have key : nI (f j) = nI (f s ^^^ 2 ^ k) ↔ f j = f s ^^^ 2 ^ k := nI_eq (by omega) (by omega)
          have ex : nI (f s) ^^^ (1 <<< ((nI (16 + k) - 16) &&& 31)) = nI (f s ^^^ 2 ^ k) := by
            rw [show nI (16 + k) - 16 = nI k by rw [show (16 : Int32) = nI 16 from rfl, pk_sub (by omega)]; congr 1; omega, w_one k (by omega), nx_xor]
          have v1 := vp_in_nI (show j < 16 by omega) (by omega : 16 < 2 ^ 31)
          have v2 := vp_in_nI hs (by omega : 16 < 2 ^ 31)
          have kj : (nI j).toNatClampNeg = j := nI_clamp (by omega)
          have ks : (nI s).toNatClampNeg = s := nI_clamp (by omega)
          by_cases hc : f j = f s ^^^ 2 ^ k
          · refine rX10_turned_10 ?_
            simp only [bX10_turned_10, run, Nat.reduceAdd, lg, st1, st2, lkill, lset, fvv, sfv, kind3, cat1, retI, retA, List.length_cons, List.length_nil, true_and, and_true, or_true, true_or, qX10_turned, show (16 : Int32) ≤ nI j ↔ False from ⟨nI_ge (b := 16) (by omega) (by omega), False.elim⟩, ms.1, ms.R1, ms.K100, kj, ks, h9.2, (sn s hs).2, ex, show nI (f j) = nI (f s ^^^ 2 ^ k) ↔ True from ⟨fun _ => trivial, fun _ => key.mpr hc⟩, not_true_eq_false, not_false_eq_true, false_implies, true_and, and_true, tti]
            have hp : (f j == f s ^^^ 2 ^ k) = true := beq_iff_eq.mpr hc
            have hle : fa_first (fun o => f o == f s ^^^ 2 ^ k) 16 = j := by
              have q1 : ¬ j < fa_first (fun o => f o == f s ^^^ 2 ^ k) 16 := fun hlt => by
                have y := fa_first_no (fun o => f o == f s ^^^ 2 ^ k) _ _ hlt
                exact absurd (hp.symm.trans y) (by decide)
              have q2 : ¬ fa_first (fun o => f o == f s ^^^ 2 ^ k) 16 < j := fun hlt => by
                have y := fa_first_yes (fun o => f o == f s ^^^ 2 ^ k) 16 (by omega)
                rw [hno _ hlt] at y
                exact absurd y (by decide)
              omega
            rw [trn, hle, if_pos (by omega)] at hq
            exact ⟨v1, v2, hq⟩
          · refine rX10_turned_10 ?_
            simp only [bX10_turned_10, run, Nat.reduceAdd, lg, st1, st2, lkill, lset, fvv, sfv, kind3, cat1, retI, retA, List.length_cons, List.length_nil, true_and, and_true, or_true, true_or, qX10_turned, show (16 : Int32) ≤ nI j ↔ False from ⟨nI_ge (b := 16) (by omega) (by omega), False.elim⟩, ms.1, ms.R1, ms.K100, kj, ks, h9.2, (sn s hs).2, ex, show nI (f j) = nI (f s ^^^ 2 ^ k) ↔ False from ⟨fun q => hc (key.mp q), False.elim⟩, not_true_eq_false, not_false_eq_true, false_implies, true_and, and_true, tti]
            refine ⟨v1, v2, ?_⟩
            refine rX10_turned_40 ?_
            simp only [bX10_turned_40, run, Nat.reduceAdd, lg, st1, st2, lkill, lset, fvv, sfv, kind3, cat1, retI, retA, List.length_cons, List.length_nil, true_and, and_true, or_true, true_or, qX10_turned, nI_1]
            refine ih (j + 1) (by omega) fun i hi => ?_
            by_cases e : i = j
            · subst e
              exact beq_false_of_ne hc
            · exact hno i (by omega)
      refine rX10_turned_0 ?_
      simp only [bX10_turned_0, run, Nat.reduceAdd, lg, st1, st2, lkill, lset, fvv, sfv, kind3, cat1, retI, retA, List.length_cons, List.length_nil, true_and, and_true, or_true, true_or, qX10_turned, show (16 : Int32) ≤ nI (16 + k) ↔ True from ⟨fun _ => trivial, fun _ => nI_le (a := 16) (by omega) (by omega)⟩, not_true_eq_false, not_false_eq_true, false_implies, true_and, and_true, tti]
      refine rX10_turned_8 ?_
      simp only [bX10_turned_8, run, Nat.reduceAdd, lg, st1, st2, lkill, lset, fvv, sfv, kind3, cat1, retI, retA, List.length_cons, List.length_nil, true_and, and_true, or_true, true_or, qX10_turned]
      exact lp 16 0 rfl (fun i hi => absurd hi (Nat.not_lt_zero i))
