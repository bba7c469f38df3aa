theorem dsm_s {C : Nat → Option Nat} (m : Nat) : (dsm C (m + 1)).2 = if C m = none then (dsm C m).2 else (dsm C m).2 + 1 := by
  rw [dsm]
  cases h : C m with
  | none => simp
  | some c => simp
theorem cwm_c {D : HD} {f : Nat → Nat} {gv : Nat → List Nat} {i j : Nat} : cwm D f gv i j = cwm D f gv j i := by
  funext m
  exact cwo_c
theorem cwo_none {f : Nat → Nat} {a b : List Nat} : cwo f a b = none ↔ a = [] ∨ b = [] := by
  unfold cwo
  split
  · next h => exact ⟨fun _ => h, fun _ => rfl⟩
  · next h => exact ⟨fun e => absurd e (Option.some_ne_none _), fun e => absurd e h⟩
theorem e_mshared {g : Gp} {i j : Nat} {h : AH} {Q : PQ} {f : Nat → Nat} {gv : Nat → List Nat} {op : Nat} {D : HD} (md : MdA h f gv op D) (hi : i < D.1) (hj : j < D.1)
    (hq : Q (.inl (some (vI (nI (dsm (cwm D f gv i j) 12).2)))) h) : Ev g mX10_shared [vR 99, vI (nI i), vI (nI j)] h Q := by
  have hD1 := md.1.ok.2.1
  have ms := md.1.1
  refine nX10_shared ?_
  have lp : ∀ d m, m + d = 12 → Ex g mX10_shared 5 [vR 99, vI (nI i), vI (nI j), vI (nI (dsm (cwm D f gv i j) m).2), vI (nI m)] [] h (0, 0) Q := by
    intro d
    induction d with
    | zero =>
      intro m hm
      have e : m = 12 := by omega
      subst e
      refine rX10_shared_5 ?_
      simp only [bX10_shared_5, run, Nat.reduceAdd, lg, st1, st2, lkill, lset, fvv, sfv, kind3, cat1, retI, retA, List.length_cons, List.length_nil, true_and, and_true, or_true, true_or, qX10_shared, show ((12 : Int32) ≤ nI 12) = True by decide, not_true_eq_false, not_false_eq_true, false_implies, true_and, and_true, tti]
      refine rX10_shared_46 ?_
      simp only [bX10_shared_46, run, Nat.reduceAdd, lg, st1, st2, lkill, lset, fvv, sfv, kind3, cat1, retI, retA, List.length_cons, List.length_nil, true_and, and_true, or_true, true_or, qX10_shared]
      exact hq
    | succ d ih =>
      intro m hm
      have hm12 : m < 12 := by omega
      have nx := ih (m + 1) (by omega)
      rw [dsm_s] at nx
      generalize (dsm (cwm D f gv i j) m).2 = c at nx
      have no : cwm D f gv i j m = none → Ex g mX10_shared 37 [vR 99, vI (nI i), vI (nI j), vI (nI c), vI (nI m)] [vI (nI c)] h (0, 0) Q := fun e => by
        rw [if_pos e] at nx
        refine rX10_shared_37 ?_
        simp only [bX10_shared_37, run, Nat.reduceAdd, lg, st1, st2, lkill, lset, fvv, sfv, kind3, cat1, retI, retA, List.length_cons, List.length_nil, true_and, and_true, or_true, true_or, qX10_shared, show nI c + 0 = nI c from nI_add c 0, nI_1, not_true_eq_false, not_false_eq_true, false_implies, true_and, and_true, tti]
        exact nx
      refine rX10_shared_5 ?_
      simp only [bX10_shared_5, run, Nat.reduceAdd, lg, st1, st2, lkill, lset, fvv, sfv, kind3, cat1, retI, retA, List.length_cons, List.length_nil, true_and, and_true, or_true, true_or, qX10_shared, show ((12 : Int32) ≤ nI m) ↔ False from ⟨nI_ge (b := 12) (by omega) (by omega), False.elim⟩, not_true_eq_false, not_false_eq_true, false_implies, true_and, and_true, tti]
      refine sX10_shared_17 ms.1 (e_mhasWord ms (by omega) hm12 (md.wk hm12 hi).1 (md.2 i hi m hm12) ?_)
      simp only [cont, Option.toList, List.cons_append, List.nil_append]
      by_cases ei : (cel D f gv m i).1 = []
      · refine rX10_shared_20 ?_
        simp only [bX10_shared_20, run, Nat.reduceAdd, lg, st1, st2, lkill, lset, fvv, sfv, kind3, cat1, retI, retA, List.length_cons, List.length_nil, true_and, and_true, or_true, true_or, qX10_shared, if_pos ei, not_true_eq_false, not_false_eq_true, false_implies, true_and, and_true, tti]
        exact no (cwo_none.mpr (Or.inl ei))
      · refine rX10_shared_20 ?_
        simp only [bX10_shared_20, run, Nat.reduceAdd, lg, st1, st2, lkill, lset, fvv, sfv, kind3, cat1, retI, retA, List.length_cons, List.length_nil, true_and, and_true, or_true, true_or, qX10_shared, if_neg ei, show ¬ (1 : Int32) = 0 by decide, not_true_eq_false, not_false_eq_true, false_implies, true_and, and_true, tti]
        refine sX10_shared_27 ms.1 (e_mhasWord ms (by omega) hm12 (md.wk hm12 hj).1 (md.2 j hj m hm12) ?_)
        simp only [cont, Option.toList, List.cons_append, List.nil_append]
        by_cases ej : (cel D f gv m j).1 = []
        · refine rX10_shared_30 ?_
          simp only [bX10_shared_30, run, Nat.reduceAdd, lg, st1, st2, lkill, lset, fvv, sfv, kind3, cat1, retI, retA, List.length_cons, List.length_nil, true_and, and_true, or_true, true_or, qX10_shared, if_pos ej, not_true_eq_false, not_false_eq_true, false_implies, true_and, and_true, tti]
          exact no (cwo_none.mpr (Or.inr ej))
        · rw [if_neg (show ¬ cwm D f gv i j m = none from fun q => (cwo_none.mp q).elim ei ej)] at nx
          refine rX10_shared_30 ?_
          simp only [bX10_shared_30, run, Nat.reduceAdd, lg, st1, st2, lkill, lset, fvv, sfv, kind3, cat1, retI, retA, List.length_cons, List.length_nil, true_and, and_true, or_true, true_or, qX10_shared, if_neg ej, show ¬ (1 : Int32) = 0 by decide, nI_1, not_true_eq_false, not_false_eq_true, false_implies, true_and, and_true, tti]
          exact nx
  refine rX10_shared_0 ?_
  simp only [bX10_shared_0, run, Nat.reduceAdd, lg, st1, st2, lkill, lset, fvv, sfv, kind3, cat1, retI, retA, List.length_cons, List.length_nil, true_and, and_true, or_true, true_or, qX10_shared]
  exact lp 12 0 rfl
theorem e_mfarBy {g : Gp} {c i j : Nat} {h : AH} {Q : PQ} {f : Nat → Nat} {gv : Nat → List Nat} {op : Nat} {D : HD} (md : MdA h f gv op D) (cs : CsR h c f gv D) (hc : 122 ≤ c) (hi : i < D.1) (hj : j < D.1) (ne : i ≠ j)
    (hq : Q (.inl (some (vD (faD (dsm (cwm D f gv i j) 12))))) h) : Ev g mX10_farBy [vR 99, vR c, vI (nI i), vI (nI j)] h Q := by
  have hD1 := md.1.ok.2.1
  have ms := md.1.1
  have e4 := md.1.2.2.2.2.1.1
  refine nX10_farBy ?_
  have les : ∀ n, n ≤ 12 → (dsm (cwm D f gv i j) n).1 ≤ 80 * n ∧ (dsm (cwm D f gv i j) n).2 ≤ n := fun n hn => dsm_le n fun m hm c e => cwo_80 (md.wk (by omega) hi).1 (md.wk (by omega) hj).1 c e
  have ce : ∀ m, m < 12 → zI h c ((min i j * D.1 + max i j) * 12 + m) = hI (cwm D f gv i j m) := fun m hm => by
    rw [cs.2 (min i j) (max i j) m (by omega) (by omega) hm]
    rcases Nat.le_total i j with q | q
    · rw [Nat.min_eq_left q, Nat.max_eq_right q]
    · rw [Nat.min_eq_right q, Nat.max_eq_left q, cwm_c]
  have lp : ∀ d m, m + d = 12 → Ex g mX10_farBy 27 [vR 99, vR c, vI (nI i), vI (nI j), vI (nI (dsm (cwm D f gv i j) m).1), vI (nI ((min i j * D.1 + max i j) * 12)), vI (nI m)] [] h (0, 0) Q := by
    intro d
    induction d with
    | zero =>
      intro m hm
      have e : m = 12 := by omega
      subst e
      obtain ⟨l1, l2⟩ := les 12 (Nat.le_refl _)
      unfold faD at hq
      refine rX10_farBy_27 ?_
      simp only [bX10_farBy_27, run, Nat.reduceAdd, lg, st1, st2, lkill, lset, fvv, sfv, kind3, cat1, retI, retA, List.length_cons, List.length_nil, true_and, and_true, or_true, true_or, qX10_farBy, show ((12 : Int32) ≤ nI 12) = True by decide, not_true_eq_false, not_false_eq_true, false_implies, true_and, and_true, tti]
      refine rX10_farBy_56 ?_
      simp only [bX10_farBy_56, run, Nat.reduceAdd, lg, st1, st2, lkill, lset, fvv, sfv, kind3, cat1, retI, retA, List.length_cons, List.length_nil, true_and, and_true, or_true, true_or, qX10_farBy]
      refine sX10_farBy_59 ms.1 (e_mshared md hi hj ?_)
      simp only [cont, Option.toList, List.cons_append, List.nil_append]
      by_cases e0 : (dsm (cwm D f gv i j) 12).2 = 0
      · rw [if_pos e0] at hq
        refine rX10_farBy_62 ?_
        simp only [bX10_farBy_62, run, Nat.reduceAdd, lg, st1, st2, lkill, lset, fvv, sfv, kind3, cat1, retI, retA, List.length_cons, List.length_nil, true_and, and_true, or_true, true_or, qX10_farBy, show nI (dsm (cwm D f gv i j) 12).2 = 0 ↔ True from ⟨fun _ => trivial, fun _ => by rw [e0]; rfl⟩, not_true_eq_false, not_false_eq_true, false_implies, true_and, and_true, tti]
        exact hq
      · rw [if_neg e0] at hq
        refine rX10_farBy_62 ?_
        simp only [bX10_farBy_62, run, Nat.reduceAdd, lg, st1, st2, lkill, lset, fvv, sfv, kind3, cat1, retI, retA, List.length_cons, List.length_nil, true_and, and_true, or_true, true_or, qX10_farBy, show nI (dsm (cwm D f gv i j) 12).2 = 0 ↔ False from ⟨fun q => e0 ((nI_eq (b := 0) (by omega) (by omega)).mp q), False.elim⟩, not_true_eq_false, not_false_eq_true, false_implies, true_and, and_true, tti]
        refine rX10_farBy_69 ?_
        simp only [bX10_farBy_69, run, Nat.reduceAdd, lg, st1, st2, lkill, lset, fvv, sfv, kind3, cat1, retI, retA, List.length_cons, List.length_nil, true_and, and_true, or_true, true_or, qX10_farBy]
        refine sX10_farBy_75 ms.1 (e_mshared md hi hj ?_)
        simp only [cont, Option.toList, List.cons_append, List.nil_append]
        refine rX10_farBy_78 ?_
        simp only [bX10_farBy_78, run, Nat.reduceAdd, lg, st1, st2, lkill, lset, fvv, sfv, kind3, cat1, retI, retA, List.length_cons, List.length_nil, true_and, and_true, or_true, true_or, qX10_farBy]
        exact ⟨(fdv_ok (by omega) (by omega) e0).1, hq⟩
    | succ d ih =>
      intro m hm
      have hm12 : m < 12 := by omega
      have nx := ih (m + 1) (by omega)
      obtain ⟨l1, l2⟩ := les m (by omega)
      have c80 := cwo_80 (f := f) (md.wk hm12 hi).1 (md.wk hm12 hj).1
      have il := idx_lt (n := D.1) (o := min i j) (p := max i j) (m := m) (by omega) (by omega) hm12
      have nn : D.1 * D.1 * 12 ≤ 1200 := by
        have := Nat.mul_le_mul hD1 hD1
        omega
      have ki : (nI ((min i j * D.1 + max i j) * 12 + m)).toNatClampNeg = (min i j * D.1 + max i j) * 12 + m := nI_clamp (by omega)
      have cm := ce m hm12
      generalize hX : (min i j * D.1 + max i j) * 12 = X at nx il ki cm
      refine rX10_farBy_27 ?_
      simp only [bX10_farBy_27, run, Nat.reduceAdd, lg, st1, st2, lkill, lset, fvv, sfv, kind3, cat1, retI, retA, List.length_cons, List.length_nil, true_and, and_true, or_true, true_or, qX10_farBy, show ((12 : Int32) ≤ nI m) ↔ False from ⟨nI_ge (b := 12) (by omega) (by omega), False.elim⟩, nI_add, cs.1, ki, cm, not_true_eq_false, not_false_eq_true, false_implies, true_and, and_true, tti]
      refine ⟨vp_in_nI il (by omega), sX10_farBy_44 ?_⟩
      rw [dsm] at nx
      have eC : cwm D f gv i j m = cwo f (cel D f gv m i).1 (cel D f gv m j).1 := rfl
      cases e : cwm D f gv i j m with
      | none =>
        rw [e] at nx
        rw [show (if (0 : Int32) < hI none then hI none else 0) = 0 by decide]
        refine rX10_farBy_47 ?_
        simp only [bX10_farBy_47, run, Nat.reduceAdd, lg, st1, st2, lkill, lset, fvv, sfv, kind3, cat1, retI, retA, List.length_cons, List.length_nil, true_and, and_true, or_true, true_or, qX10_farBy, show nI (dsm (cwm D f gv i j) m).1 + 0 = nI (dsm (cwm D f gv i j) m).1 from nI_add _ 0, nI_1]
        exact nx
      | some k =>
        have k80 := c80 k (eC ▸ e)
        rw [e] at nx
        rw [show (if (0 : Int32) < hI (some k) then hI (some k) else 0) = nI k from by
          have := nI_max (a := 0) (b := k) (by decide) (by omega)
          rw [Nat.max_eq_right (Nat.zero_le _)] at this
          exact this]
        refine rX10_farBy_47 ?_
        simp only [bX10_farBy_47, run, Nat.reduceAdd, lg, st1, st2, lkill, lset, fvv, sfv, kind3, cat1, retI, retA, List.length_cons, List.length_nil, true_and, and_true, or_true, true_or, qX10_farBy, nI_add, nI_1]
        exact nx
  refine rX10_farBy_0 ?_
  simp only [bX10_farBy_0, run, Nat.reduceAdd, lg, st1, st2, lkill, lset, fvv, sfv, kind3, cat1, retI, retA, List.length_cons, List.length_nil, true_and, and_true, or_true, true_or, qX10_farBy]
  refine sX10_farBy_5 ?_
  rw [nI_min (by omega) (by omega)]
  refine rX10_farBy_8 ?_
  simp only [bX10_farBy_8, run, Nat.reduceAdd, lg, st1, st2, lkill, lset, fvv, sfv, kind3, cat1, retI, retA, List.length_cons, List.length_nil, true_and, and_true, or_true, true_or, qX10_farBy, ms.1, e4, not_true_eq_false, not_false_eq_true, false_implies, true_and, and_true, tti]
  refine sX10_farBy_15 ?_
  rw [nI_max (by omega) (by omega)]
  refine rX10_farBy_18 ?_
  simp only [bX10_farBy_18, run, Nat.reduceAdd, lg, st1, st2, lkill, lset, fvv, sfv, kind3, cat1, retI, retA, List.length_cons, List.length_nil, true_and, and_true, or_true, true_or, qX10_farBy, pk_mul, nI_add, show ∀ a, nI a * 12 = nI (a * 12) from fun a => by rw [show (12 : Int32) = nI 12 from rfl, pk_mul]]
  exact lp 12 0 rfl
theorem lc_self {f : Nat → Nat} : ∀ a : List Nat, lc f a a = 0
  | [] => by rw [lc_nil]; rfl
  | x :: l => by
    rw [lc_cons, lc_self l]
    unfold cst
    rw [if_pos rfl]
    omega
theorem fdv_0 : ∀ b, b < 13 → b = 0 ∨ fdv 0 b = 0 := by decide +kernel
theorem dsm_self {D : HD} {f : Nat → Nat} {gv : Nat → List Nat} {i : Nat} : ∀ n, (dsm (cwm D f gv i i) n).1 = 0
  | 0 => rfl
  | n + 1 => by
    rw [dsm]
    cases h : cwm D f gv i i n with
    | none => exact dsm_self n
    | some c =>
      show (dsm (cwm D f gv i i) n).1 + c = 0
      rw [dsm_self n]
      unfold cwm cwo at h
      split at h
      · exact absurd h (by simp)
      · rw [lc_self] at h
        have := Option.some.inj h
        omega
theorem faD_self {D : HD} {f : Nat → Nat} {gv : Nat → List Nat} {i : Nat} (h : (dsm (cwm D f gv i i) 12).2 ≤ 12) : faD (dsm (cwm D f gv i i) 12) = 0 := by
  unfold faD
  split
  · rfl
  · next e =>
    rw [dsm_self]
    exact (fdv_0 _ (by omega)).resolve_left e
theorem e_mfar {g : Gp} {a0 a1 : Int32} {h : AH} {Q : PQ} {f : Nat → Nat} {gv : Nat → List Nat} {op : Nat} {D : HD} (hf : ModR h f gv op D)
    (hq : ∀ i j, i < D.1 → j < D.1 → a0 = nI i → a1 = nI j → ∀ h', Ms h h' → zI h' 99 0 = 0 → Q (.inl (some (vD (faD (dsm (cwm D f gv i j) 12))))) h')
    (hx : (inb a0 D.1 && inb a1 D.1) = false → ∀ h', Ms h h' → zI h' 99 0 = 1 → Q (.inl (some (vD 0))) h') : Ev g mX10_far [vR 99, vI a0, vI a1] h Q := by
  refine nX10_far ?_
  refine Ex.wf (fun w => ?_)
  have ms := hf.1
  have hD1 := hf.ok.2.1
  have e4 := hf.2.2.2.2.1.1
  have bad : (inb a0 D.1 && inb a1 D.1) = false → Ex g mX10_far 21 [vR 99, vI a0, vI a1] [vR 99] h (0, 0) Q := fun e => by
    refine rX10_far_21 ?_
    simp only [bX10_far_21, run, Nat.reduceAdd, lg, st1, st2, lkill, lset, fvv, sfv, kind3, cat1, retI, retA, List.length_cons, List.length_nil, true_and, and_true, or_true, true_or, qX10_far, ms.1, kI, zI_thr, show ¬ (1 : Int32) = 0 by decide, show FP.dconst0 = 0 from rfl, not_true_eq_false, not_false_eq_true, false_implies, true_and, and_true, tti]
    exact hx e _ Ms.thr zI_thr
  refine rX10_far_0 ?_
  simp only [bX10_far_0, run, Nat.reduceAdd, lg, st1, st2, lkill, lset, fvv, sfv, kind3, cat1, retI, retA, List.length_cons, List.length_nil, true_and, and_true, or_true, true_or, qX10_far]
  refine sX10_far_3 ms.1 (e_misLanguage ms e4 hD1 ?_)
  simp only [cont, Option.toList, List.cons_append, List.nil_append]
  cases e1 : inb a0 D.1 with
  | false =>
    refine rX10_far_6 ?_
    simp only [bX10_far_6, run, Nat.reduceAdd, lg, st1, st2, lkill, lset, fvv, sfv, kind3, cat1, retI, retA, List.length_cons, List.length_nil, true_and, and_true, or_true, true_or, qX10_far, show bi false = 0 from rfl, not_true_eq_false, not_false_eq_true, false_implies, true_and, and_true, tti]
    exact bad (by rw [e1]; rfl)
  | true =>
    refine rX10_far_6 ?_
    simp only [bX10_far_6, run, Nat.reduceAdd, lg, st1, st2, lkill, lset, fvv, sfv, kind3, cat1, retI, retA, List.length_cons, List.length_nil, true_and, and_true, or_true, true_or, qX10_far, show ¬ bi true = 0 by decide, not_true_eq_false, not_false_eq_true, false_implies, true_and, and_true, tti]
    refine sX10_far_11 ms.1 (e_misLanguage ms e4 hD1 ?_)
    simp only [cont, Option.toList, List.cons_append, List.nil_append]
    cases e2 : inb a1 D.1 with
    | false =>
      refine rX10_far_14 ?_
      simp only [bX10_far_14, run, Nat.reduceAdd, lg, st1, st2, lkill, lset, fvv, sfv, kind3, cat1, retI, retA, List.length_cons, List.length_nil, true_and, and_true, or_true, true_or, qX10_far, show bi false = 0 from rfl, not_true_eq_false, not_false_eq_true, false_implies, true_and, and_true, tti]
      exact bad (by rw [e1, e2]; rfl)
    | true =>
      obtain ⟨i, hi, rfl⟩ := inb_t (by omega) e1
      obtain ⟨j, hj, rfl⟩ := inb_t (by omega) e2
      have h1 := hf.thr w (v := 0)
      refine rX10_far_14 ?_
      simp only [bX10_far_14, run, Nat.reduceAdd, lg, st1, st2, lkill, lset, fvv, sfv, kind3, cat1, retI, retA, List.length_cons, List.length_nil, true_and, and_true, or_true, true_or, qX10_far, show ¬ bi true = 0 by decide, ms.1, kI, zI_thr, not_true_eq_false, not_false_eq_true, false_implies, true_and, and_true, tti]
      refine rX10_far_34 ?_
      simp only [bX10_far_34, run, Nat.reduceAdd, lg, st1, st2, lkill, lset, fvv, sfv, kind3, cat1, retI, retA, List.length_cons, List.length_nil, true_and, and_true, or_true, true_or, qX10_far]
      refine Ex.wf (fun w1 => ?_)
      refine sX10_far_35 ms.1 (e_msolveR w1 h1 fun h2 y2 e99 md => ?_)
      simp only [cont, Option.toList, List.cons_append, List.nil_append]
      have t0 : zI h2 99 0 = 0 := by rw [e99]; exact zI_thr
      have z := hq i j hi hj rfl rfl
      by_cases eij : i = j
      · subst eij
        have l12 := (dsm_le (C := cwm D f gv i i) 12 fun m hm c e => cwo_80 (md.wk (by omega) hi).1 (md.wk (by omega) hi).1 c e).2
        rw [faD_self l12] at z
        refine rX10_far_38 ?_
        simp only [bX10_far_38, run, Nat.reduceAdd, lg, st1, st2, lkill, lset, fvv, sfv, kind3, cat1, retI, retA, List.length_cons, List.length_nil, true_and, and_true, or_true, true_or, qX10_far, show FP.dconst0 = 0 from rfl, not_true_eq_false, not_false_eq_true, false_implies, true_and, and_true, tti]
        exact z h2 (Ms.thr.tr y2) t0
      · refine rX10_far_38 ?_
        simp only [bX10_far_38, run, Nat.reduceAdd, lg, st1, st2, lkill, lset, fvv, sfv, kind3, cat1, retI, retA, List.length_cons, List.length_nil, true_and, and_true, or_true, true_or, qX10_far, show nI i = nI j ↔ False from ⟨fun q => eij ((nI_eq (by omega) (by omega)).mp q), False.elim⟩, not_true_eq_false, not_false_eq_true, false_implies, true_and, and_true, tti]
        refine rX10_far_47 ?_
        simp only [bX10_far_47, run, Nat.reduceAdd, lg, st1, st2, lkill, lset, fvv, sfv, kind3, cat1, retI, retA, List.length_cons, List.length_nil, true_and, and_true, or_true, true_or, qX10_far]
        refine Ex.wf (fun w2 => ?_)
        refine sX10_far_49 (by decide) md.1.1.1 (e_mcosts md fun h3 y3 e3 big cs => ?_)
        simp only [cont, Option.toList, List.cons_append, List.nil_append]
        refine rX10_far_52 ?_
        simp only [bX10_far_52, run, Nat.reduceAdd, lg, st1, st2, lkill, lset, fvv, sfv, kind3, cat1, retI, retA, List.length_cons, List.length_nil, true_and, and_true, or_true, true_or, qX10_far]
        refine sX10_far_54 (y3.a w2 md).1.1.1 (e_mfarBy (y3.a w2 md) cs big hi hj eij ?_)
        simp only [cont, Option.toList, List.cons_append, List.nil_append]
        refine rX10_far_57 ?_
        simp only [bX10_far_57, run, Nat.reduceAdd, lg, st1, st2, lkill, lset, fvv, sfv, kind3, cat1, retI, retA, List.length_cons, List.length_nil, true_and, and_true, or_true, true_or, qX10_far]
        exact z h3 ((Ms.thr.tr y2).tr y3.ms) (e3.trans t0)
theorem nst_nn {X : Nat → Nat × Nat} {l : Nat} (h : ∀ o, (X o).1 < 1000 ∧ (X o).2 < 13) : ∀ n, FP.dcmp (nst X l n).2 0 ≠ none
  | 0 => by show FP.dcmp 0 0 ≠ none; decide +kernel
  | n + 1 => by
    rw [nst]
    split
    · next e =>
      have := (fdv_ok (h n).1 (h n).2 e.2.1).2
      show FP.dcmp (fdv (X n).1 (X n).2) 0 ≠ none
      rcases this with q | q <;> rw [q] <;> exact Option.some_ne_none _
    · exact nst_nn h n
theorem e_mnearestBy {g : Gp} {c l : Nat} {h : AH} {Q : PQ} {f : Nat → Nat} {gv : Nat → List Nat} {op : Nat} {D : HD} (md : MdA h f gv op D) (cs : CsR h c f gv D) (hc : 122 ≤ c) (hl : l < D.1)
    (hq : Q (.inl (some (vI (bI (nst (dsX D f gv l) l D.1).1)))) h) : Ev g mX10_nearestBy [vR 99, vR c, vI (nI l)] h Q := by
  have hD1 := md.1.ok.2.1
  have ms := md.1.1
  have e4 := md.1.2.2.2.2.1.1
  refine nX10_nearestBy ?_
  have lp : ∀ d o, o + d = D.1 → ∀ (y z : AV), FP.dcmp (nst (dsX D f gv l) l o).2 0 ≠ none → Ex g mX10_nearestBy 8 [vR 99, vR c, vI (nI l), vI (bI (nst (dsX D f gv l) l o).1), vD (nst (dsX D f gv l) l o).2, vU, vI (nI o), y, z] [] h (0, 0) Q := by
    intro d
    induction d with
    | zero =>
      intro o ho y z nn
      have e : o = D.1 := by omega
      subst e
      refine rX10_nearestBy_8 ?_
      simp only [bX10_nearestBy_8, run, Nat.reduceAdd, lg, st1, st2, lkill, lset, fvv, sfv, kind3, cat1, retI, retA, List.length_cons, List.length_nil, true_and, and_true, or_true, true_or, qX10_nearestBy, ms.1, e4, show nI D.1 ≤ nI D.1 ↔ True from ⟨fun _ => trivial, fun _ => nI_le (Nat.le_refl _) (by omega)⟩, not_true_eq_false, not_false_eq_true, false_implies, true_and, and_true, tti]
      refine rX10_nearestBy_75 ?_
      simp only [bX10_nearestBy_75, run, Nat.reduceAdd, lg, st1, st2, lkill, lset, fvv, sfv, kind3, cat1, retI, retA, List.length_cons, List.length_nil, true_and, and_true, or_true, true_or, qX10_nearestBy]
      exact hq
    | succ d ih =>
      intro o ho y z nn
      have ho1 : o < D.1 := by omega
      have nx := ih (o + 1) (by omega)
      have le := nst_le (X := dsX D f gv l) (l := l) o
      rw [nst] at nx
      have nle : nI D.1 ≤ nI o ↔ False := ⟨nI_ge (by omega) (by omega), False.elim⟩
      by_cases ol : o = l
      · rw [if_neg (fun q => q.1 ol)] at nx
        refine rX10_nearestBy_8 ?_
        simp only [bX10_nearestBy_8, run, Nat.reduceAdd, lg, st1, st2, lkill, lset, fvv, sfv, kind3, cat1, retI, retA, List.length_cons, List.length_nil, true_and, and_true, or_true, true_or, qX10_nearestBy, ms.1, e4, nle, show nI o = nI l ↔ True from ⟨fun _ => trivial, fun _ => by rw [ol]⟩, not_true_eq_false, not_false_eq_true, false_implies, true_and, and_true, tti]
        refine rX10_nearestBy_69 ?_
        simp only [bX10_nearestBy_69, run, Nat.reduceAdd, lg, st1, st2, lkill, lset, fvv, sfv, kind3, cat1, retI, retA, List.length_cons, List.length_nil, true_and, and_true, or_true, true_or, qX10_nearestBy, nI_1]
        exact nx _ _ nn
      · refine rX10_nearestBy_8 ?_
        simp only [bX10_nearestBy_8, run, Nat.reduceAdd, lg, st1, st2, lkill, lset, fvv, sfv, kind3, cat1, retI, retA, List.length_cons, List.length_nil, true_and, and_true, or_true, true_or, qX10_nearestBy, ms.1, e4, nle, show nI o = nI l ↔ False from ⟨fun q => ol ((nI_eq (by omega) (by omega)).mp q), False.elim⟩, not_true_eq_false, not_false_eq_true, false_implies, true_and, and_true, tti]
        refine sX10_nearestBy_27 ms.1 (e_mshared md hl ho1 ?_)
        simp only [cont, Option.toList, List.cons_append, List.nil_append]
        have les := dsm_le (C := cwm D f gv l o) 12 fun m hm c e => cwo_80 (md.wk (by omega) hl).1 (md.wk (by omega) ho1).1 c e
        have fb := fun Q hq => e_mfarBy (g := g) (Q := Q) md cs hc hl ho1 (fun q => ol q.symm) hq
        rw [show dsX D f gv l o = dsm (cwm D f gv l o) 12 from rfl] at nx
        generalize dsm (cwm D f gv l o) 12 = X at nx les fb
        generalize nst (dsX D f gv l) l o = N at nx le nn
        by_cases e0 : X.2 = 0
        · rw [if_neg (fun q => q.2.1 e0)] at nx
          refine rX10_nearestBy_30 ?_
          simp only [bX10_nearestBy_30, run, Nat.reduceAdd, lg, st1, st2, lkill, lset, fvv, sfv, kind3, cat1, retI, retA, List.length_cons, List.length_nil, true_and, and_true, or_true, true_or, qX10_nearestBy, show nI X.2 = 0 ↔ True from ⟨fun _ => trivial, fun _ => by rw [e0]; rfl⟩, nI_1, not_true_eq_false, not_false_eq_true, false_implies, true_and, and_true, tti]
          exact nx _ _ nn
        · refine rX10_nearestBy_30 ?_
          simp only [bX10_nearestBy_30, run, Nat.reduceAdd, lg, st1, st2, lkill, lset, fvv, sfv, kind3, cat1, retI, retA, List.length_cons, List.length_nil, true_and, and_true, or_true, true_or, qX10_nearestBy, show nI X.2 = 0 ↔ False from ⟨fun q => e0 ((nI_eq (b := 0) (by omega) (by omega)).mp q), False.elim⟩, not_true_eq_false, not_false_eq_true, false_implies, true_and, and_true, tti]
          refine rX10_nearestBy_36 ?_
          simp only [bX10_nearestBy_36, run, Nat.reduceAdd, lg, st1, st2, lkill, lset, fvv, sfv, kind3, cat1, retI, retA, List.length_cons, List.length_nil, true_and, and_true, or_true, true_or, qX10_nearestBy]
          refine sX10_nearestBy_41 ms.1 (fb _ ?_)
          simp only [cont, Option.toList, List.cons_append, List.nil_append]
          rw [show faD X = fdv X.1 X.2 from if_neg e0]
          have fo := fdv_ok (a := X.1) (b := X.2) (by omega) (by omega) e0
          have fn : FP.dcmp (fdv X.1 X.2) 0 ≠ none := by rcases fo.2 with q | q <;> rw [q] <;> exact Option.some_ne_none _
          have dn := dcmp_nn fn nn
          by_cases eN : N.1 = 0
          · rw [if_pos ⟨ol, e0, Or.inl eN⟩] at nx
            have n2 := nx (vD (fdv X.1 X.2)) vU fn
            rw [bI_s] at n2
            refine rX10_nearestBy_44 ?_
            simp only [bX10_nearestBy_44, run, Nat.reduceAdd, lg, st1, st2, lkill, lset, fvv, sfv, kind3, cat1, retI, retA, List.length_cons, List.length_nil, true_and, and_true, or_true, true_or, qX10_nearestBy, eN, show bI 0 = -1 from bI_0, not_true_eq_false, not_false_eq_true, false_implies, true_and, and_true, tti]
            refine rX10_nearestBy_62 ?_
            simp only [bX10_nearestBy_62, run, Nat.reduceAdd, lg, st1, st2, lkill, lset, fvv, sfv, kind3, cat1, retI, retA, List.length_cons, List.length_nil, true_and, and_true, or_true, true_or, qX10_nearestBy, nI_1]
            exact n2
          · have b1 : bI N.1 = -1 ↔ False := ⟨fun q => by
              obtain ⟨t, ht⟩ : ∃ t, N.1 = t + 1 := ⟨N.1 - 1, by omega⟩
              rw [ht, bI_s] at q
              exact nI_m1 (by omega) q, False.elim⟩
            have cl : Op.cmpValue (FP.dcmp (fdv X.1 X.2) N.2) .l < 0 ↔ FP.dcmp (fdv X.1 X.2) N.2 = some .lt := by
              revert dn
              generalize FP.dcmp (fdv X.1 X.2) N.2 = o
              intro dn
              cases o with
              | none => exact absurd rfl dn
              | some o => cases o <;> decide
            by_cases eL : FP.dcmp (fdv X.1 X.2) N.2 = some .lt
            · rw [if_pos ⟨ol, e0, Or.inr eL⟩] at nx
              have n2 := nx (vD (fdv X.1 X.2)) vU fn
              rw [bI_s] at n2
              refine rX10_nearestBy_44 ?_
              simp only [bX10_nearestBy_44, run, Nat.reduceAdd, lg, st1, st2, lkill, lset, fvv, sfv, kind3, cat1, retI, retA, List.length_cons, List.length_nil, true_and, and_true, or_true, true_or, qX10_nearestBy, b1, show Op.cmpValue (FP.dcmp (fdv X.1 X.2) N.2) .l < 0 ↔ True from ⟨fun _ => trivial, fun _ => cl.mpr eL⟩, not_true_eq_false, not_false_eq_true, false_implies, true_and, and_true, tti]
              refine rX10_nearestBy_62 ?_
              simp only [bX10_nearestBy_62, run, Nat.reduceAdd, lg, st1, st2, lkill, lset, fvv, sfv, kind3, cat1, retI, retA, List.length_cons, List.length_nil, true_and, and_true, or_true, true_or, qX10_nearestBy, nI_1]
              exact n2
            · rw [if_neg (fun q => q.2.2.elim eN eL)] at nx
              refine rX10_nearestBy_44 ?_
              simp only [bX10_nearestBy_44, run, Nat.reduceAdd, lg, st1, st2, lkill, lset, fvv, sfv, kind3, cat1, retI, retA, List.length_cons, List.length_nil, true_and, and_true, or_true, true_or, qX10_nearestBy, b1, show Op.cmpValue (FP.dcmp (fdv X.1 X.2) N.2) .l < 0 ↔ False from ⟨fun q => eL (cl.mp q), False.elim⟩, nI_1, not_true_eq_false, not_false_eq_true, false_implies, true_and, and_true, tti]
              exact nx _ _ nn
  refine rX10_nearestBy_0 ?_
  simp only [bX10_nearestBy_0, run, Nat.reduceAdd, lg, st1, st2, lkill, lset, fvv, sfv, kind3, cat1, retI, retA, List.length_cons, List.length_nil, true_and, and_true, or_true, true_or, qX10_nearestBy]
  exact lp D.1 0 (Nat.zero_add _) _ _ (by show FP.dcmp 0 0 ≠ none; decide +kernel)
theorem e_mnearest {g : Gp} {x : Int32} {h : AH} {Q : PQ} {f : Nat → Nat} {gv : Nat → List Nat} {op : Nat} {D : HD} (hf : ModR h f gv op D)
    (hq : ∀ l, l < D.1 → x = nI l → ∀ h', Ms h h' → zI h' 99 0 = 0 → Q (.inl (some (vI (bI (nst (dsX D f gv l) l D.1).1)))) h')
    (hx : inb x D.1 = false → ∀ h', Ms h h' → zI h' 99 0 = 1 → Q (.inl (some (vI 0))) h') : Ev g mX10_nearest [vR 99, vI x] h Q := by
  refine nX10_nearest ?_
  refine rX10_nearest_0 ?_
  simp only [bX10_nearest_0, run, Nat.reduceAdd, lg, st1, st2, lkill, lset, fvv, sfv, kind3, cat1, retI, retA, List.length_cons, List.length_nil, true_and, and_true, or_true, true_or, qX10_nearest]
  refine sX10_nearest_3 hf.1.1 (e_isAsked (y := 0) hf (fun l m hl hm ex ey h2 y2 md t => ?_) fun e h2 y2 t => ?_)
  · simp only [cont, Option.toList, List.cons_append, List.nil_append]
    subst ex
    refine rX10_nearest_6 ?_
    simp only [bX10_nearest_6, run, Nat.reduceAdd, lg, st1, st2, lkill, lset, fvv, sfv, kind3, cat1, retI, retA, List.length_cons, List.length_nil, true_and, and_true, or_true, true_or, qX10_nearest, show ¬ (1 : Int32) = 0 by decide, not_true_eq_false, not_false_eq_true, false_implies, true_and, and_true, tti]
    refine Ex.wf (fun w2 => ?_)
    refine sX10_nearest_11 (by decide) md.1.1.1 (e_mcosts md fun h3 y3 e3 big cs => ?_)
    simp only [cont, Option.toList, List.cons_append, List.nil_append]
    refine rX10_nearest_14 ?_
    simp only [bX10_nearest_14, run, Nat.reduceAdd, lg, st1, st2, lkill, lset, fvv, sfv, kind3, cat1, retI, retA, List.length_cons, List.length_nil, true_and, and_true, or_true, true_or, qX10_nearest]
    refine sX10_nearest_15 (y3.a w2 md).1.1.1 (e_mnearestBy (y3.a w2 md) cs big hl ?_)
    simp only [cont, Option.toList, List.cons_append, List.nil_append]
    refine rX10_nearest_18 ?_
    simp only [bX10_nearest_18, run, Nat.reduceAdd, lg, st1, st2, lkill, lset, fvv, sfv, kind3, cat1, retI, retA, List.length_cons, List.length_nil, true_and, and_true, or_true, true_or, qX10_nearest]
    exact hq l hl rfl h3 (y2.tr y3.ms) (e3.trans t)
  · simp only [cont, Option.toList, List.cons_append, List.nil_append]
    rw [show inb 0 12 = true by decide, Bool.and_true] at e
    refine rX10_nearest_6 ?_
    simp only [bX10_nearest_6, run, Nat.reduceAdd, lg, st1, st2, lkill, lset, fvv, sfv, kind3, cat1, retI, retA, List.length_cons, List.length_nil, true_and, and_true, or_true, true_or, qX10_nearest, not_true_eq_false, not_false_eq_true, false_implies, true_and, and_true, tti]
    refine rX10_nearest_21 ?_
    simp only [bX10_nearest_21, run, Nat.reduceAdd, lg, st1, st2, lkill, lset, fvv, sfv, kind3, cat1, retI, retA, List.length_cons, List.length_nil, true_and, and_true, or_true, true_or, qX10_nearest]
    exact hx e h2 y2 t
