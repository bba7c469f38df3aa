/-! ===== the model: two words beside each other ===== -/
theorem e_mcostNow {g : Gp} {m i j : Nat} {h : AH} {Q : PQ} {f : Nat → Nat} {gv : Nat → List Nat} {op : Nat} {D : HD} (md : MdA h f gv op D) (hm : m < 12) (hi : i < D.1) (hj : j < D.1)
    (hq : ∀ h', Mq h h' → zI h' 99 0 = zI h 99 0 → (¬ (cel D f gv m i).1 = [] ∧ ¬ (cel D f gv m j).1 = [] → CoM h' (cls f (cel D f gv m i).1 (cel D f gv m j).1)) → Q (.inl (some (vI (hI (cwo f (cel D f gv m i).1 (cel D f gv m j).1))))) h') : Ev g mX10_costNow [vR 99, vI (nI m), vI (nI i), vI (nI j)] h Q := by
  have hD1 := md.1.ok.2.1
  have wi := (md.wk hm hi).1
  have wj := (md.wk hm hj).1
  refine nX10_costNow ?_
  refine rX10_costNow_0 ?_
  simp only [bX10_costNow_0, run, Nat.reduceAdd, lg, st1, st2, lkill, lset, fvv, sfv, kind3, cat1, retI, retA, List.length_cons, List.length_nil, true_and, and_true, or_true, true_or, qX10_costNow]
  refine sX10_costNow_3 md.1.1.1 (e_mhasWord md.1.1 (by omega) hm wi (md.2 i hi m hm) ?_)
  simp only [cont, Option.toList, List.cons_append, List.nil_append]
  by_cases ei : (cel D f gv m i).1 = []
  · refine rX10_costNow_6 ?_
    simp only [bX10_costNow_6, run, Nat.reduceAdd, lg, st1, st2, lkill, lset, fvv, sfv, kind3, cat1, retI, retA, List.length_cons, List.length_nil, true_and, and_true, or_true, true_or, qX10_costNow, if_pos ei, not_true_eq_false, not_false_eq_true, false_implies, true_and, and_true, tti]
    refine rX10_costNow_37 ?_
    simp only [bX10_costNow_37, run, Nat.reduceAdd, lg, st1, st2, lkill, lset, fvv, sfv, kind3, cat1, retI, retA, List.length_cons, List.length_nil, true_and, and_true, or_true, true_or, qX10_costNow]
    have z := hq h Mq.rf rfl (fun q => absurd ei q.1)
    rw [show cwo f (cel D f gv m i).1 (cel D f gv m j).1 = none from if_pos (Or.inl ei)] at z
    exact z
  · refine rX10_costNow_6 ?_
    simp only [bX10_costNow_6, run, Nat.reduceAdd, lg, st1, st2, lkill, lset, fvv, sfv, kind3, cat1, retI, retA, List.length_cons, List.length_nil, true_and, and_true, or_true, true_or, qX10_costNow, if_neg ei, show ¬ (1 : Int32) = 0 by decide, not_true_eq_false, not_false_eq_true, false_implies, true_and, and_true, tti]
    refine sX10_costNow_12 md.1.1.1 (e_mhasWord md.1.1 (by omega) hm wj (md.2 j hj m hm) ?_)
    simp only [cont, Option.toList, List.cons_append, List.nil_append]
    by_cases ej : (cel D f gv m j).1 = []
    · refine rX10_costNow_15 ?_
      simp only [bX10_costNow_15, run, Nat.reduceAdd, lg, st1, st2, lkill, lset, fvv, sfv, kind3, cat1, retI, retA, List.length_cons, List.length_nil, true_and, and_true, or_true, true_or, qX10_costNow, if_pos ej, not_true_eq_false, not_false_eq_true, false_implies, true_and, and_true, tti]
      refine rX10_costNow_37 ?_
      simp only [bX10_costNow_37, run, Nat.reduceAdd, lg, st1, st2, lkill, lset, fvv, sfv, kind3, cat1, retI, retA, List.length_cons, List.length_nil, true_and, and_true, or_true, true_or, qX10_costNow]
      have z := hq h Mq.rf rfl (fun q => absurd ej q.2)
      rw [show cwo f (cel D f gv m i).1 (cel D f gv m j).1 = none from if_pos (Or.inr ej)] at z
      exact z
    · refine rX10_costNow_15 ?_
      simp only [bX10_costNow_15, run, Nat.reduceAdd, lg, st1, st2, lkill, lset, fvv, sfv, kind3, cat1, retI, retA, List.length_cons, List.length_nil, true_and, and_true, or_true, true_or, qX10_costNow, if_neg ej, show ¬ (1 : Int32) = 0 by decide, not_true_eq_false, not_false_eq_true, false_implies, true_and, and_true, tti]
      refine sX10_costNow_22 md.1.1.1 (e_mwordOf md.1.1 (by omega) hm (md.2 i hi m hm) ?_)
      simp only [cont, Option.toList, List.cons_append, List.nil_append]
      refine rX10_costNow_25 ?_
      simp only [bX10_costNow_25, run, Nat.reduceAdd, lg, st1, st2, lkill, lset, fvv, sfv, kind3, cat1, retI, retA, List.length_cons, List.length_nil, true_and, and_true, or_true, true_or, qX10_costNow]
      refine sX10_costNow_28 md.1.1.1 (e_mwordOf md.1.1 (by omega) hm (md.2 j hj m hm) ?_)
      simp only [cont, Option.toList, List.cons_append, List.nil_append]
      refine sX10_costNow_31 md.1.1.1 (e_malign md.1.1 md.1.2.2.1 wi wj fun h2 y2 t2 co2 => ?_)
      simp only [cont, Option.toList, List.cons_append, List.nil_append]
      have z := hq h2 y2 t2 (fun _ => co2)
      rw [show cwo f (cel D f gv m i).1 (cel D f gv m j).1 = some (lc f (cel D f gv m i).1 (cel D f gv m j).1) from if_neg (fun q => q.elim ei ej)] at z
      refine rX10_costNow_34 ?_
      simp only [bX10_costNow_34, run, Nat.reduceAdd, lg, st1, st2, lkill, lset, fvv, sfv, kind3, cat1, retI, retA, List.length_cons, List.length_nil, true_and, and_true, or_true, true_or, qX10_costNow]
      exact z
theorem e_mcolumnsNow {g : Gp} {m i j : Nat} {h : AH} {Q : PQ} {f : Nat → Nat} {gv : Nat → List Nat} {op : Nat} {D : HD} (md : MdA h f gv op D) (hm : m < 12) (hi : i < D.1) (hj : j < D.1)
    (hq : ∀ h', Mq h h' → zI h' 99 0 = zI h 99 0 → (∀ k, k < (clo f (cel D f gv m i).1 (cel D f gv m j).1).length → zI h' 117 k = nI ((clo f (cel D f gv m i).1 (cel D f gv m j).1).getD k (0, 0)).1 ∧ zI h' 118 k = nI ((clo f (cel D f gv m i).1 (cel D f gv m j).1).getD k (0, 0)).2) → Q (.inl (some (vI (nI (clo f (cel D f gv m i).1 (cel D f gv m j).1).length)))) h') : Ev g mX10_columnsNow [vR 99, vI (nI m), vI (nI i), vI (nI j)] h Q := by
  have c80 := cwo_80 (f := f) (md.wk hm hi).1 (md.wk hm hj).1
  refine nX10_columnsNow ?_
  refine Ex.wf (fun w => ?_)
  refine rX10_columnsNow_0 ?_
  simp only [bX10_columnsNow_0, run, Nat.reduceAdd, lg, st1, st2, lkill, lset, fvv, sfv, kind3, cat1, retI, retA, List.length_cons, List.length_nil, true_and, and_true, or_true, true_or, qX10_columnsNow]
  refine sX10_columnsNow_4 md.1.1.1 (e_mcostNow md hm hi hj fun h2 y2 t2 co2 => ?_)
  simp only [cont, Option.toList, List.cons_append, List.nil_append]
  have ms2 := (y2.a w md).1.1
  by_cases hb2 : ¬ (cel D f gv m i).1 = [] ∧ ¬ (cel D f gv m j).1 = []
  · have co := co2 hb2
    rw [show clo f (cel D f gv m i).1 (cel D f gv m j).1 = cls f (cel D f gv m i).1 (cel D f gv m j).1 from if_pos hb2] at hq
    refine rX10_columnsNow_7 ?_
    simp only [bX10_columnsNow_7, run, Nat.reduceAdd, lg, st1, st2, lkill, lset, fvv, sfv, kind3, cat1, retI, retA, List.length_cons, List.length_nil, true_and, and_true, or_true, true_or, qX10_columnsNow, show hI (cwo f (cel D f gv m i).1 (cel D f gv m j).1) = -1 ↔ False from ⟨fun q => by have := (hI_m1 c80).mp q; rw [show cwo f (cel D f gv m i).1 (cel D f gv m j).1 = some _ from if_neg (fun q => q.elim hb2.1 hb2.2)] at this; exact Option.some_ne_none _ this, False.elim⟩, not_true_eq_false, not_false_eq_true, false_implies, true_and, and_true, tti]
    refine rX10_columnsNow_15 ?_
    simp only [bX10_columnsNow_15, run, Nat.reduceAdd, lg, st1, st2, lkill, lset, fvv, sfv, kind3, cat1, retI, retA, List.length_cons, List.length_nil, true_and, and_true, or_true, true_or, qX10_columnsNow, ms2.1, co.1, not_true_eq_false, not_false_eq_true, false_implies, true_and, and_true, tti]
    exact hq h2 y2 t2 co.2
  · have e9 : (cel D f gv m i).1 = [] ∨ (cel D f gv m j).1 = [] := Classical.byContradiction fun r => hb2 ⟨fun q => r (Or.inl q), fun q => r (Or.inr q)⟩
    rw [show clo f (cel D f gv m i).1 (cel D f gv m j).1 = [] from if_neg hb2] at hq
    refine rX10_columnsNow_7 ?_
    simp only [bX10_columnsNow_7, run, Nat.reduceAdd, lg, st1, st2, lkill, lset, fvv, sfv, kind3, cat1, retI, retA, List.length_cons, List.length_nil, true_and, and_true, or_true, true_or, qX10_columnsNow, show cwo f (cel D f gv m i).1 (cel D f gv m j).1 = none from if_pos e9, show hI none = -1 from rfl, not_true_eq_false, not_false_eq_true, false_implies, true_and, and_true, tti]
    exact hq h2 y2 t2 fun k hk => absurd hk (Nat.not_lt_zero _)
theorem e_areAsked {g : Gp} {a0 a1 a2 : Int32} {h : AH} {Q : PQ} {f : Nat → Nat} {gv : Nat → List Nat} {op : Nat} {D : HD} (hf : ModR h f gv op D)
    (hq : ∀ m i j, m < 12 → i < D.1 → j < D.1 → a0 = nI m → a1 = nI i → a2 = nI j → ∀ h', Ms h h' → MdA h' f gv op D → zI h' 99 0 = 0 → Q (.inl (some (vI 1))) h')
    (hx : (inb a1 D.1 && inb a2 D.1) = false → ∀ h', Ms h h' → zI h' 99 0 = 1 → Q (.inl (some (vI 0))) h')
    (hx2 : (inb a1 D.1 && inb a2 D.1) = true → inb a0 12 = false → ∀ h', Ms h h' → zI h' 99 0 = 2 → Q (.inl (some (vI 0))) h') : Ev g mX10_areAsked [vR 99, vI a0, vI a1, vI a2] h Q := by
  refine nX10_areAsked ?_
  refine Ex.wf (fun w => ?_)
  have ms := hf.1
  have hD1 := hf.ok.2.1
  have e4 := hf.2.2.2.2.1.1
  have n1 : ¬ (1 : Int32) = 0 := by decide
  have bad : (inb a1 D.1 && inb a2 D.1) = false → Ex g mX10_areAsked 17 [vR 99, vI a0, vI a1, vI a2] [vR 99] h (0, 0) Q := fun e => by
    refine rX10_areAsked_17 ?_
    simp only [bX10_areAsked_17, run, Nat.reduceAdd, lg, st1, st2, lkill, lset, fvv, sfv, kind3, cat1, retI, retA, List.length_cons, List.length_nil, true_and, and_true, or_true, true_or, qX10_areAsked, ms.1, kI, zI_thr, n1, not_true_eq_false, not_false_eq_true, false_implies, true_and, and_true, tti]
    refine rX10_areAsked_47 ?_
    simp only [bX10_areAsked_47, run, Nat.reduceAdd, lg, st1, st2, lkill, lset, fvv, sfv, kind3, cat1, retI, retA, List.length_cons, List.length_nil, true_and, and_true, or_true, true_or, qX10_areAsked, ms.1, kI, zI_thr, n1, not_true_eq_false, not_false_eq_true, false_implies, true_and, and_true, tti]
    refine rX10_areAsked_58 ?_
    simp only [bX10_areAsked_58, run, Nat.reduceAdd, lg, st1, st2, lkill, lset, fvv, sfv, kind3, cat1, retI, retA, List.length_cons, List.length_nil, true_and, and_true, or_true, true_or, qX10_areAsked]
    exact hx e _ Ms.thr zI_thr
  refine rX10_areAsked_0 ?_
  simp only [bX10_areAsked_0, run, Nat.reduceAdd, lg, st1, st2, lkill, lset, fvv, sfv, kind3, cat1, retI, retA, List.length_cons, List.length_nil, true_and, and_true, or_true, true_or, qX10_areAsked]
  refine sX10_areAsked_3 ms.1 (e_misLanguage ms e4 hD1 ?_)
  simp only [cont, Option.toList, List.cons_append, List.nil_append]
  cases e1 : inb a1 D.1 with
  | false =>
    refine rX10_areAsked_6 ?_
    simp only [bX10_areAsked_6, run, Nat.reduceAdd, lg, st1, st2, lkill, lset, fvv, sfv, kind3, cat1, retI, retA, List.length_cons, List.length_nil, true_and, and_true, or_true, true_or, qX10_areAsked, show bi false = 0 from rfl, not_true_eq_false, not_false_eq_true, false_implies, true_and, and_true, tti]
    exact bad (by rw [e1]; rfl)
  | true =>
    refine rX10_areAsked_6 ?_
    simp only [bX10_areAsked_6, run, Nat.reduceAdd, lg, st1, st2, lkill, lset, fvv, sfv, kind3, cat1, retI, retA, List.length_cons, List.length_nil, true_and, and_true, or_true, true_or, qX10_areAsked, show ¬ bi true = 0 by decide, not_true_eq_false, not_false_eq_true, false_implies, true_and, and_true, tti]
    refine sX10_areAsked_11 ms.1 (e_misLanguage ms e4 hD1 ?_)
    simp only [cont, Option.toList, List.cons_append, List.nil_append]
    cases e2 : inb a2 D.1 with
    | false =>
      refine rX10_areAsked_14 ?_
      simp only [bX10_areAsked_14, run, Nat.reduceAdd, lg, st1, st2, lkill, lset, fvv, sfv, kind3, cat1, retI, retA, List.length_cons, List.length_nil, true_and, and_true, or_true, true_or, qX10_areAsked, show bi false = 0 from rfl, ms.1, kI, zI_thr, n1, not_true_eq_false, not_false_eq_true, false_implies, true_and, and_true, tti]
      refine rX10_areAsked_47 ?_
      simp only [bX10_areAsked_47, run, Nat.reduceAdd, lg, st1, st2, lkill, lset, fvv, sfv, kind3, cat1, retI, retA, List.length_cons, List.length_nil, true_and, and_true, or_true, true_or, qX10_areAsked, ms.1, kI, zI_thr, n1, not_true_eq_false, not_false_eq_true, false_implies, true_and, and_true, tti]
      refine rX10_areAsked_58 ?_
      simp only [bX10_areAsked_58, run, Nat.reduceAdd, lg, st1, st2, lkill, lset, fvv, sfv, kind3, cat1, retI, retA, List.length_cons, List.length_nil, true_and, and_true, or_true, true_or, qX10_areAsked]
      exact hx (by rw [e1, e2]; rfl) _ Ms.thr zI_thr
    | true =>
      refine rX10_areAsked_14 ?_
      simp only [bX10_areAsked_14, run, Nat.reduceAdd, lg, st1, st2, lkill, lset, fvv, sfv, kind3, cat1, retI, retA, List.length_cons, List.length_nil, true_and, and_true, or_true, true_or, qX10_areAsked, show ¬ bi true = 0 by decide, not_true_eq_false, not_false_eq_true, false_implies, true_and, and_true, tti]
      refine rX10_areAsked_21 ?_
      simp only [bX10_areAsked_21, run, Nat.reduceAdd, lg, st1, st2, lkill, lset, fvv, sfv, kind3, cat1, retI, retA, List.length_cons, List.length_nil, true_and, and_true, or_true, true_or, qX10_areAsked]
      refine sX10_areAsked_22 (e_misMeaning ?_)
      simp only [cont, Option.toList, List.cons_append, List.nil_append]
      cases e3 : inb a0 12 with
      | false =>
        refine rX10_areAsked_25 ?_
        simp only [bX10_areAsked_25, run, Nat.reduceAdd, lg, st1, st2, lkill, lset, fvv, sfv, kind3, cat1, retI, retA, List.length_cons, List.length_nil, true_and, and_true, or_true, true_or, qX10_areAsked, show bi false = 0 from rfl, not_true_eq_false, not_false_eq_true, false_implies, true_and, and_true, tti]
        refine rX10_areAsked_32 ?_
        simp only [bX10_areAsked_32, run, Nat.reduceAdd, lg, st1, st2, lkill, lset, fvv, sfv, kind3, cat1, retI, retA, List.length_cons, List.length_nil, true_and, and_true, or_true, true_or, qX10_areAsked, ms.1, kI, zI_thr, show ¬ (2 : Int32) = 0 by decide, not_true_eq_false, not_false_eq_true, false_implies, true_and, and_true, tti]
        refine rX10_areAsked_47 ?_
        simp only [bX10_areAsked_47, run, Nat.reduceAdd, lg, st1, st2, lkill, lset, fvv, sfv, kind3, cat1, retI, retA, List.length_cons, List.length_nil, true_and, and_true, or_true, true_or, qX10_areAsked, ms.1, kI, zI_thr, show ¬ (2 : Int32) = 0 by decide, not_true_eq_false, not_false_eq_true, false_implies, true_and, and_true, tti]
        refine rX10_areAsked_58 ?_
        simp only [bX10_areAsked_58, run, Nat.reduceAdd, lg, st1, st2, lkill, lset, fvv, sfv, kind3, cat1, retI, retA, List.length_cons, List.length_nil, true_and, and_true, or_true, true_or, qX10_areAsked]
        exact hx2 (by rw [e1, e2]; rfl) e3 _ Ms.thr zI_thr
      | true =>
        obtain ⟨i, hi, rfl⟩ := inb_t (by omega) e1
        obtain ⟨j, hj, rfl⟩ := inb_t (by omega) e2
        obtain ⟨m, hm, rfl⟩ := inb_t (by decide) e3
        have h1 := hf.thr w (v := 0)
        refine rX10_areAsked_25 ?_
        simp only [bX10_areAsked_25, run, Nat.reduceAdd, lg, st1, st2, lkill, lset, fvv, sfv, kind3, cat1, retI, retA, List.length_cons, List.length_nil, true_and, and_true, or_true, true_or, qX10_areAsked, show ¬ bi true = 0 by decide, ms.1, kI, zI_thr, not_true_eq_false, not_false_eq_true, false_implies, true_and, and_true, tti]
        refine Ex.wf (fun w1 => ?_)
        refine sX10_areAsked_44 ms.1 (e_msolveR w1 h1 fun h2 y2 e99 md => ?_)
        simp only [cont, Option.toList, List.cons_append, List.nil_append]
        have t0 : zI h2 99 0 = 0 := by rw [e99]; exact zI_thr
        refine rX10_areAsked_47 ?_
        simp only [bX10_areAsked_47, run, Nat.reduceAdd, lg, st1, st2, lkill, lset, fvv, sfv, kind3, cat1, retI, retA, List.length_cons, List.length_nil, true_and, and_true, or_true, true_or, qX10_areAsked, md.1.1.1, t0, not_true_eq_false, not_false_eq_true, false_implies, true_and, and_true, tti]
        exact hq m i j hm hi hj rfl rfl rfl h2 (Ms.thr.tr y2) md t0
theorem e_mcost {g : Gp} {a0 a1 a2 : Int32} {h : AH} {Q : PQ} {f : Nat → Nat} {gv : Nat → List Nat} {op : Nat} {D : HD} (hf : ModR h f gv op D)
    (hq : ∀ m i j, m < 12 → i < D.1 → j < D.1 → a0 = nI m → a1 = nI i → a2 = nI j → ∀ h', Ms h h' → zI h' 99 0 = 0 → Q (.inl (some (vI (hI (cwo f (cel D f gv m i).1 (cel D f gv m j).1))))) h')
    (hx : (inb a1 D.1 && inb a2 D.1) = false → ∀ h', Ms h h' → zI h' 99 0 = 1 → Q (.inl (some (vI 0))) h')
    (hx2 : (inb a1 D.1 && inb a2 D.1) = true → inb a0 12 = false → ∀ h', Ms h h' → zI h' 99 0 = 2 → Q (.inl (some (vI 0))) h') : Ev g mX10_cost [vR 99, vI a0, vI a1, vI a2] h Q := by
  refine nX10_cost ?_
  refine rX10_cost_0 ?_
  simp only [bX10_cost_0, run, Nat.reduceAdd, lg, st1, st2, lkill, lset, fvv, sfv, kind3, cat1, retI, retA, List.length_cons, List.length_nil, true_and, and_true, or_true, true_or, qX10_cost]
  refine sX10_cost_4 hf.1.1 (e_areAsked hf (fun m i j hm hi hj ex ey ez h2 y2 md t => ?_) (fun e h2 y2 t => ?_) fun e e2 h2 y2 t => ?_)
  · simp only [cont, Option.toList, List.cons_append, List.nil_append]
    subst ex
    subst ey
    subst ez
    refine rX10_cost_7 ?_
    simp only [bX10_cost_7, run, Nat.reduceAdd, lg, st1, st2, lkill, lset, fvv, sfv, kind3, cat1, retI, retA, List.length_cons, List.length_nil, true_and, and_true, or_true, true_or, qX10_cost, show ¬ (1 : Int32) = 0 by decide, not_true_eq_false, not_false_eq_true, false_implies, true_and, and_true, tti]
    refine sX10_cost_14 md.1.1.1 (e_mcostNow md hm hi hj fun h3 y3 t3 _ => ?_)
    simp only [cont, Option.toList, List.cons_append, List.nil_append]
    refine rX10_cost_17 ?_
    simp only [bX10_cost_17, run, Nat.reduceAdd, lg, st1, st2, lkill, lset, fvv, sfv, kind3, cat1, retI, retA, List.length_cons, List.length_nil, true_and, and_true, or_true, true_or, qX10_cost]
    exact hq m i j hm hi hj rfl rfl rfl h3 (y2.tr y3.ms) (t3.trans t)
  · simp only [cont, Option.toList, List.cons_append, List.nil_append]
    refine rX10_cost_7 ?_
    simp only [bX10_cost_7, run, Nat.reduceAdd, lg, st1, st2, lkill, lset, fvv, sfv, kind3, cat1, retI, retA, List.length_cons, List.length_nil, true_and, and_true, or_true, true_or, qX10_cost, not_true_eq_false, not_false_eq_true, false_implies, true_and, and_true, tti]
    refine rX10_cost_20 ?_
    simp only [bX10_cost_20, run, Nat.reduceAdd, lg, st1, st2, lkill, lset, fvv, sfv, kind3, cat1, retI, retA, List.length_cons, List.length_nil, true_and, and_true, or_true, true_or, qX10_cost]
    exact hx e h2 y2 t
  · simp only [cont, Option.toList, List.cons_append, List.nil_append]
    refine rX10_cost_7 ?_
    simp only [bX10_cost_7, run, Nat.reduceAdd, lg, st1, st2, lkill, lset, fvv, sfv, kind3, cat1, retI, retA, List.length_cons, List.length_nil, true_and, and_true, or_true, true_or, qX10_cost, not_true_eq_false, not_false_eq_true, false_implies, true_and, and_true, tti]
    refine rX10_cost_20 ?_
    simp only [bX10_cost_20, run, Nat.reduceAdd, lg, st1, st2, lkill, lset, fvv, sfv, kind3, cat1, retI, retA, List.length_cons, List.length_nil, true_and, and_true, or_true, true_or, qX10_cost]
    exact hx2 e e2 h2 y2 t
theorem e_mcolumns {g : Gp} {a0 a1 a2 : Int32} {h : AH} {Q : PQ} {f : Nat → Nat} {gv : Nat → List Nat} {op : Nat} {D : HD} (hf : ModR h f gv op D)
    (hq : ∀ m i j, m < 12 → i < D.1 → j < D.1 → a0 = nI m → a1 = nI i → a2 = nI j → ∀ h', Ms h h' → zI h' 99 0 = 0 → Q (.inl (some (vI (nI (clo f (cel D f gv m i).1 (cel D f gv m j).1).length)))) h')
    (hx : (inb a1 D.1 && inb a2 D.1) = false → ∀ h', Ms h h' → zI h' 99 0 = 1 → Q (.inl (some (vI 0))) h')
    (hx2 : (inb a1 D.1 && inb a2 D.1) = true → inb a0 12 = false → ∀ h', Ms h h' → zI h' 99 0 = 2 → Q (.inl (some (vI 0))) h') : Ev g mX10_columns [vR 99, vI a0, vI a1, vI a2] h Q := by
  refine nX10_columns ?_
  refine rX10_columns_0 ?_
  simp only [bX10_columns_0, run, Nat.reduceAdd, lg, st1, st2, lkill, lset, fvv, sfv, kind3, cat1, retI, retA, List.length_cons, List.length_nil, true_and, and_true, or_true, true_or, qX10_columns]
  refine sX10_columns_4 hf.1.1 (e_areAsked hf (fun m i j hm hi hj ex ey ez h2 y2 md t => ?_) (fun e h2 y2 t => ?_) fun e e2 h2 y2 t => ?_)
  · simp only [cont, Option.toList, List.cons_append, List.nil_append]
    subst ex
    subst ey
    subst ez
    refine rX10_columns_7 ?_
    simp only [bX10_columns_7, run, Nat.reduceAdd, lg, st1, st2, lkill, lset, fvv, sfv, kind3, cat1, retI, retA, List.length_cons, List.length_nil, true_and, and_true, or_true, true_or, qX10_columns, show ¬ (1 : Int32) = 0 by decide, not_true_eq_false, not_false_eq_true, false_implies, true_and, and_true, tti]
    refine sX10_columns_14 md.1.1.1 (e_mcolumnsNow md hm hi hj fun h3 y3 t3 _ => ?_)
    simp only [cont, Option.toList, List.cons_append, List.nil_append]
    refine rX10_columns_17 ?_
    simp only [bX10_columns_17, run, Nat.reduceAdd, lg, st1, st2, lkill, lset, fvv, sfv, kind3, cat1, retI, retA, List.length_cons, List.length_nil, true_and, and_true, or_true, true_or, qX10_columns]
    exact hq m i j hm hi hj rfl rfl rfl h3 (y2.tr y3.ms) (t3.trans t)
  · simp only [cont, Option.toList, List.cons_append, List.nil_append]
    refine rX10_columns_7 ?_
    simp only [bX10_columns_7, run, Nat.reduceAdd, lg, st1, st2, lkill, lset, fvv, sfv, kind3, cat1, retI, retA, List.length_cons, List.length_nil, true_and, and_true, or_true, true_or, qX10_columns, not_true_eq_false, not_false_eq_true, false_implies, true_and, and_true, tti]
    refine rX10_columns_20 ?_
    simp only [bX10_columns_20, run, Nat.reduceAdd, lg, st1, st2, lkill, lset, fvv, sfv, kind3, cat1, retI, retA, List.length_cons, List.length_nil, true_and, and_true, or_true, true_or, qX10_columns]
    exact hx e h2 y2 t
  · simp only [cont, Option.toList, List.cons_append, List.nil_append]
    refine rX10_columns_7 ?_
    simp only [bX10_columns_7, run, Nat.reduceAdd, lg, st1, st2, lkill, lset, fvv, sfv, kind3, cat1, retI, retA, List.length_cons, List.length_nil, true_and, and_true, or_true, true_or, qX10_columns, not_true_eq_false, not_false_eq_true, false_implies, true_and, and_true, tti]
    refine rX10_columns_20 ?_
    simp only [bX10_columns_20, run, Nat.reduceAdd, lg, st1, st2, lkill, lset, fvv, sfv, kind3, cat1, retI, retA, List.length_cons, List.length_nil, true_and, and_true, or_true, true_or, qX10_columns]
    exact hx2 e e2 h2 y2 t
theorem e_mcolumnAt {g : Gp} {a0 a1 a2 a3 : Int32} {h : AH} {Q : PQ} {f : Nat → Nat} {gv : Nat → List Nat} {op : Nat} {D : HD} (hf : ModR h f gv op D)
    (hq : ∀ m i j c, m < 12 → i < D.1 → j < D.1 → c < (clo f (cel D f gv m i).1 (cel D f gv m j).1).length → a0 = nI m → a1 = nI i → a2 = nI j → a3 = nI c → ∀ h', Ms h h' → zI h' 99 0 = 0 → Q (.inl (some (vI (nI (16 * ((clo f (cel D f gv m i).1 (cel D f gv m j).1).getD c (0, 0)).1 + ((clo f (cel D f gv m i).1 (cel D f gv m j).1).getD c (0, 0)).2))))) h')
    (hx : (inb a1 D.1 && inb a2 D.1) = false → ∀ h', Ms h h' → zI h' 99 0 = 1 → Q (.inl (some (vI 0))) h')
    (hx2 : (inb a1 D.1 && inb a2 D.1) = true → inb a0 12 = false → ∀ h', Ms h h' → zI h' 99 0 = 2 → Q (.inl (some (vI 0))) h')
    (hx3 : ∀ m i j, m < 12 → i < D.1 → j < D.1 → a0 = nI m → a1 = nI i → a2 = nI j → inb a3 (clo f (cel D f gv m i).1 (cel D f gv m j).1).length = false → ∀ h', Ms h h' → zI h' 99 0 = 2 → Q (.inl (some (vI 0))) h') : Ev g mX10_columnAt [vR 99, vI a0, vI a1, vI a2, vI a3] h Q := by
  refine nX10_columnAt ?_
  refine rX10_columnAt_0 ?_
  simp only [bX10_columnAt_0, run, Nat.reduceAdd, lg, st1, st2, lkill, lset, fvv, sfv, kind3, cat1, retI, retA, List.length_cons, List.length_nil, true_and, and_true, or_true, true_or, qX10_columnAt]
  refine sX10_columnAt_4 hf.1.1 (e_areAsked hf (fun m i j hm hi hj ex ey ez h2 y2 md t => ?_) (fun e h2 y2 t => ?_) fun e e2 h2 y2 t => ?_)
  · simp only [cont, Option.toList, List.cons_append, List.nil_append]
    subst ex
    subst ey
    subst ez
    have l20 := clo_len (f := f) (md.wk hm hi).1 (md.wk hm hj).1
    refine rX10_columnAt_7 ?_
    simp only [bX10_columnAt_7, run, Nat.reduceAdd, lg, st1, st2, lkill, lset, fvv, sfv, kind3, cat1, retI, retA, List.length_cons, List.length_nil, true_and, and_true, or_true, true_or, qX10_columnAt, show ¬ (1 : Int32) = 0 by decide, not_true_eq_false, not_false_eq_true, false_implies, true_and, and_true, tti]
    refine rX10_columnAt_12 ?_
    simp only [bX10_columnAt_12, run, Nat.reduceAdd, lg, st1, st2, lkill, lset, fvv, sfv, kind3, cat1, retI, retA, List.length_cons, List.length_nil, true_and, and_true, or_true, true_or, qX10_columnAt]
    refine Ex.wf (fun w2 => ?_)
    refine sX10_columnAt_19 md.1.1.1 (e_mcolumnsNow md hm hi hj fun h3 y3 t3 co3 => ?_)
    simp only [cont, Option.toList, List.cons_append, List.nil_append]
    have ms3 := (y3.a w2 md).1.1
    have hq' := hq m i j
    have hx3' := hx3 m i j hm hi hj rfl rfl rfl
    generalize clo f (cel D f gv m i).1 (cel D f gv m j).1 = cs at co3 l20 hq' hx3'
    refine rX10_columnAt_22 ?_
    simp only [bX10_columnAt_22, run, Nat.reduceAdd, lg, st1, st2, lkill, lset, fvv, sfv, kind3, cat1, retI, retA, List.length_cons, List.length_nil, true_and, and_true, or_true, true_or, qX10_columnAt]
    refine sX10_columnAt_24 (e_isInZ (by omega) ?_)
    simp only [cont, Option.toList, List.cons_append, List.nil_append]
    cases e1 : inb a3 cs.length with
    | false =>
      refine rX10_columnAt_27 ?_
      simp only [bX10_columnAt_27, run, Nat.reduceAdd, lg, st1, st2, lkill, lset, fvv, sfv, kind3, cat1, retI, retA, List.length_cons, List.length_nil, true_and, and_true, or_true, true_or, qX10_columnAt, show bi false = 0 from rfl, not_true_eq_false, not_false_eq_true, false_implies, true_and, and_true, tti]
      refine rX10_columnAt_51 ?_
      simp only [bX10_columnAt_51, run, Nat.reduceAdd, lg, st1, st2, lkill, lset, fvv, sfv, kind3, cat1, retI, retA, List.length_cons, List.length_nil, true_and, and_true, or_true, true_or, qX10_columnAt]
      refine sX10_columnAt_53 ms3.1 (e_no ms3 ?_)
      simp only [cont, Option.toList, List.cons_append, List.nil_append]
      refine rX10_columnAt_56 ?_
      simp only [bX10_columnAt_56, run, Nat.reduceAdd, lg, st1, st2, lkill, lset, fvv, sfv, kind3, cat1, retI, retA, List.length_cons, List.length_nil, true_and, and_true, or_true, true_or, qX10_columnAt]
      exact hx3' e1 _ ((y2.tr y3.ms).tr Ms.thr) zI_thr
    | true =>
      obtain ⟨c, hc, rfl⟩ := inb_t (by omega) e1
      have kc : (nI c).toNatClampNeg = c := nI_clamp (by omega)
      have vc := vp_in_nI (show c < 20 by omega) (by omega : 20 < 2 ^ 31)
      refine rX10_columnAt_27 ?_
      simp only [bX10_columnAt_27, run, Nat.reduceAdd, lg, st1, st2, lkill, lset, fvv, sfv, kind3, cat1, retI, retA, List.length_cons, List.length_nil, true_and, and_true, or_true, true_or, qX10_columnAt, show ¬ bi true = 0 by decide, ms3.1, ms3.R22, ms3.K117, ms3.R23, ms3.K118, kc, (co3 c hc).1, (co3 c hc).2, show ∀ n, (16 : Int32) * nI n = nI (16 * n) from fun n => by rw [show (16 : Int32) = nI 16 from rfl, pk_mul], nI_add, not_true_eq_false, not_false_eq_true, false_implies, true_and, and_true, tti]
      exact ⟨vc, vc, hq' c hm hi hj hc rfl rfl rfl rfl h3 (y2.tr y3.ms) (t3.trans t)⟩
  · simp only [cont, Option.toList, List.cons_append, List.nil_append]
    refine rX10_columnAt_7 ?_
    simp only [bX10_columnAt_7, run, Nat.reduceAdd, lg, st1, st2, lkill, lset, fvv, sfv, kind3, cat1, retI, retA, List.length_cons, List.length_nil, true_and, and_true, or_true, true_or, qX10_columnAt, not_true_eq_false, not_false_eq_true, false_implies, true_and, and_true, tti]
    exact hx e h2 y2 t
  · simp only [cont, Option.toList, List.cons_append, List.nil_append]
    refine rX10_columnAt_7 ?_
    simp only [bX10_columnAt_7, run, Nat.reduceAdd, lg, st1, st2, lkill, lset, fvv, sfv, kind3, cat1, retI, retA, List.length_cons, List.length_nil, true_and, and_true, or_true, true_or, qX10_columnAt, not_true_eq_false, not_false_eq_true, false_implies, true_and, and_true, tti]
    exact hx2 e e2 h2 y2 t
