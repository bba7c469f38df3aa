theorem okN_in {x : Int32} : (decide (¬ x < -1) && decide (¬ (15 : Int32) < x)) = okN x := by
  unfold okN inb
  have h1 : x < -1 ↔ x.toInt < (-1 : Int32).toInt := Int32.lt_iff_toInt_lt
  have h2 : (15 : Int32) < x ↔ (15 : Int32).toInt < x.toInt := Int32.lt_iff_toInt_lt
  have h3 : x < 0 ↔ x.toInt < (0 : Int32).toInt := Int32.lt_iff_toInt_lt
  have h4 : nI 16 ≤ x ↔ (nI 16).toInt ≤ x.toInt := Int32.le_iff_toInt_le
  have h5 : (x = -1) ↔ x.toInt = (-1 : Int32).toInt := ⟨fun e => by rw [e], fun e => Int32.toInt.inj e⟩
  have e1 : (-1 : Int32).toInt = -1 := by decide
  have e2 : (15 : Int32).toInt = 15 := by decide
  have e3 : (0 : Int32).toInt = 0 := by decide
  have e4 : (nI 16).toInt = 16 := by decide
  rw [e1] at h1 h5
  rw [e2] at h2
  rw [e3] at h3
  rw [e4] at h4
  rw [Bool.eq_iff_iff]
  simp only [Bool.and_eq_true, Bool.or_eq_true, decide_eq_true_eq, h1, h2, h3, h4, h5]
  omega
theorem e_manswers {g : Gp} {a0 a1 a2 a3 : Int32} {h : AH} {Q : PQ} {f : Nat → Nat} {gv : Nat → List Nat} {op : Nat} {D : HD} (hf : ModR h f gv op D)
    (hq : ∀ i j s t, i < D.1 → j < D.1 → s ≤ 16 → t ≤ 16 → a0 = nI i → a1 = nI j → a2 = bI s → a3 = bI t → ∀ h', Ms h h' → zI h' 99 0 = 0 → Q (.inl (some (vI (nI (anw D f gv i j (sg s) (sg t)))))) h')
    (hx : (inb a0 D.1 && inb a1 D.1) = false → ∀ h', Ms h h' → zI h' 99 0 = 1 → Q (.inl (some (vI 0))) h')
    (hx2 : (inb a0 D.1 && inb a1 D.1) = true → (okN a2 && okN a3) = false → ∀ h', Ms h h' → zI h' 99 0 = 2 → Q (.inl (some (vI 0))) h') : Ev g mX10_answers [vR 99, vI a0, vI a1, vI a2, vI a3] h Q := by
  refine nX10_answers ?_
  refine Ex.wf (fun w => ?_)
  have h1 := hf.thr w (v := 0)
  have ms := h1.1
  have hD1 := h1.ok.2.1
  have e4 := h1.2.2.2.2.1.1
  have bad1 : (inb a0 D.1 && inb a1 D.1) = false → Ex g mX10_answers 21 [vR 99, vI a0, vI a1, vI a2, vI a3] [] (sI h 99 0 0) (0, 0) Q := fun e => by
    refine rX10_answers_21 ?_
    simp only [bX10_answers_21, run, Nat.reduceAdd, lg, st1, st2, lkill, lset, fvv, sfv, kind3, cat1, retI, retA, List.length_cons, List.length_nil, true_and, and_true, or_true, true_or, qX10_answers]
    refine sX10_answers_23 ms.1 (e_no ms ?_)
    simp only [cont, Option.toList, List.cons_append, List.nil_append]
    refine rX10_answers_26 ?_
    simp only [bX10_answers_26, run, Nat.reduceAdd, lg, st1, st2, lkill, lset, fvv, sfv, kind3, cat1, retI, retA, List.length_cons, List.length_nil, true_and, and_true, or_true, true_or, qX10_answers]
    exact hx e _ (Ms.thr.tr Ms.thr) zI_thr
  refine rX10_answers_0 ?_
  simp only [bX10_answers_0, run, Nat.reduceAdd, lg, st1, st2, lkill, lset, fvv, sfv, kind3, cat1, retI, retA, List.length_cons, List.length_nil, true_and, and_true, or_true, true_or, qX10_answers, hf.1.1, not_true_eq_false, not_false_eq_true, false_implies, true_and, and_true, tti]
  refine sX10_answers_7 ms.1 (e_misLanguage ms e4 hD1 ?_)
  simp only [cont, Option.toList, List.cons_append, List.nil_append]
  cases e1 : inb a0 D.1 with
  | false =>
    refine rX10_answers_10 ?_
    simp only [bX10_answers_10, run, Nat.reduceAdd, lg, st1, st2, lkill, lset, fvv, sfv, kind3, cat1, retI, retA, List.length_cons, List.length_nil, true_and, and_true, or_true, true_or, qX10_answers, show bi false = 0 from rfl, not_true_eq_false, not_false_eq_true, false_implies, true_and, and_true, tti]
    exact bad1 (by rw [e1]; rfl)
  | true =>
    refine rX10_answers_10 ?_
    simp only [bX10_answers_10, run, Nat.reduceAdd, lg, st1, st2, lkill, lset, fvv, sfv, kind3, cat1, retI, retA, List.length_cons, List.length_nil, true_and, and_true, or_true, true_or, qX10_answers, show ¬ bi true = 0 by decide, not_true_eq_false, not_false_eq_true, false_implies, true_and, and_true, tti]
    refine sX10_answers_15 ms.1 (e_misLanguage ms e4 hD1 ?_)
    simp only [cont, Option.toList, List.cons_append, List.nil_append]
    cases e2 : inb a1 D.1 with
    | false =>
      refine rX10_answers_18 ?_
      simp only [bX10_answers_18, run, Nat.reduceAdd, lg, st1, st2, lkill, lset, fvv, sfv, kind3, cat1, retI, retA, List.length_cons, List.length_nil, true_and, and_true, or_true, true_or, qX10_answers, show bi false = 0 from rfl, not_true_eq_false, not_false_eq_true, false_implies, true_and, and_true, tti]
      refine sX10_answers_23 ms.1 (e_no ms ?_)
      simp only [cont, Option.toList, List.cons_append, List.nil_append]
      refine rX10_answers_26 ?_
      simp only [bX10_answers_26, run, Nat.reduceAdd, lg, st1, st2, lkill, lset, fvv, sfv, kind3, cat1, retI, retA, List.length_cons, List.length_nil, true_and, and_true, or_true, true_or, qX10_answers]
      exact hx (by rw [e1, e2]; rfl) _ (Ms.thr.tr Ms.thr) zI_thr
    | true =>
      have e12 : (inb a0 D.1 && inb a1 D.1) = true := by rw [e1, e2]; rfl
      have bad2 : (okN a2 && okN a3) = false → Ex g mX10_answers 48 [vR 99, vI a0, vI a1, vI a2, vI a3] [] (sI h 99 0 0) (0, 0) Q := fun e => by
        refine rX10_answers_48 ?_
        simp only [bX10_answers_48, run, Nat.reduceAdd, lg, st1, st2, lkill, lset, fvv, sfv, kind3, cat1, retI, retA, List.length_cons, List.length_nil, true_and, and_true, or_true, true_or, qX10_answers]
        refine sX10_answers_50 ms.1 (e_no ms ?_)
        simp only [cont, Option.toList, List.cons_append, List.nil_append]
        refine rX10_answers_53 ?_
        simp only [bX10_answers_53, run, Nat.reduceAdd, lg, st1, st2, lkill, lset, fvv, sfv, kind3, cat1, retI, retA, List.length_cons, List.length_nil, true_and, and_true, or_true, true_or, qX10_answers]
        exact hx2 e12 e _ (Ms.thr.tr Ms.thr) zI_thr
      refine rX10_answers_18 ?_
      simp only [bX10_answers_18, run, Nat.reduceAdd, lg, st1, st2, lkill, lset, fvv, sfv, kind3, cat1, retI, retA, List.length_cons, List.length_nil, true_and, and_true, or_true, true_or, qX10_answers, show ¬ bi true = 0 by decide, not_true_eq_false, not_false_eq_true, false_implies, true_and, and_true, tti]
      refine rX10_answers_27 ?_
      simp only [bX10_answers_27, run, Nat.reduceAdd, lg, st1, st2, lkill, lset, fvv, sfv, kind3, cat1, retI, retA, List.length_cons, List.length_nil, true_and, and_true, or_true, true_or, qX10_answers]
      refine sX10_answers_31 (e_isIn ?_)
      simp only [cont, Option.toList, List.cons_append, List.nil_append]
      rw [okN_in]
      cases e3 : okN a2 with
      | false =>
        refine rX10_answers_34 ?_
        simp only [bX10_answers_34, run, Nat.reduceAdd, lg, st1, st2, lkill, lset, fvv, sfv, kind3, cat1, retI, retA, List.length_cons, List.length_nil, true_and, and_true, or_true, true_or, qX10_answers, show bi false = 0 from rfl, not_true_eq_false, not_false_eq_true, false_implies, true_and, and_true, tti]
        exact bad2 (by rw [e3]; rfl)
      | true =>
        refine rX10_answers_34 ?_
        simp only [bX10_answers_34, run, Nat.reduceAdd, lg, st1, st2, lkill, lset, fvv, sfv, kind3, cat1, retI, retA, List.length_cons, List.length_nil, true_and, and_true, or_true, true_or, qX10_answers, show ¬ bi true = 0 by decide, not_true_eq_false, not_false_eq_true, false_implies, true_and, and_true, tti]
        refine sX10_answers_42 (e_isIn ?_)
        simp only [cont, Option.toList, List.cons_append, List.nil_append]
        rw [okN_in]
        cases e5 : okN a3 with
        | false =>
          refine rX10_answers_45 ?_
          simp only [bX10_answers_45, run, Nat.reduceAdd, lg, st1, st2, lkill, lset, fvv, sfv, kind3, cat1, retI, retA, List.length_cons, List.length_nil, true_and, and_true, or_true, true_or, qX10_answers, show bi false = 0 from rfl, not_true_eq_false, not_false_eq_true, false_implies, true_and, and_true, tti]
          refine sX10_answers_50 ms.1 (e_no ms ?_)
          simp only [cont, Option.toList, List.cons_append, List.nil_append]
          refine rX10_answers_53 ?_
          simp only [bX10_answers_53, run, Nat.reduceAdd, lg, st1, st2, lkill, lset, fvv, sfv, kind3, cat1, retI, retA, List.length_cons, List.length_nil, true_and, and_true, or_true, true_or, qX10_answers]
          exact hx2 e12 (by rw [e3, e5]; rfl) _ (Ms.thr.tr Ms.thr) zI_thr
        | true =>
          obtain ⟨i, hi, rfl⟩ := inb_t (by omega) e1
          obtain ⟨j, hj, rfl⟩ := inb_t (by omega) e2
          obtain ⟨s, hs, rfl⟩ := okN_t e3
          obtain ⟨t, ht, rfl⟩ := okN_t e5
          refine rX10_answers_45 ?_
          simp only [bX10_answers_45, run, Nat.reduceAdd, lg, st1, st2, lkill, lset, fvv, sfv, kind3, cat1, retI, retA, List.length_cons, List.length_nil, true_and, and_true, or_true, true_or, qX10_answers, show ¬ bi true = 0 by decide, not_true_eq_false, not_false_eq_true, false_implies, true_and, and_true, tti]
          refine rX10_answers_54 ?_
          simp only [bX10_answers_54, run, Nat.reduceAdd, lg, st1, st2, lkill, lset, fvv, sfv, kind3, cat1, retI, retA, List.length_cons, List.length_nil, true_and, and_true, or_true, true_or, qX10_answers]
          refine Ex.wf (fun w1 => ?_)
          refine sX10_answers_55 ms.1 (e_msolveR w1 h1 fun h2 y2 e99 md => ?_)
          simp only [cont, Option.toList, List.cons_append, List.nil_append]
          have t0 : zI h2 99 0 = 0 := by rw [e99]; exact zI_thr
          refine rX10_answers_58 ?_
          simp only [bX10_answers_58, run, Nat.reduceAdd, lg, st1, st2, lkill, lset, fvv, sfv, kind3, cat1, retI, retA, List.length_cons, List.length_nil, true_and, and_true, or_true, true_or, qX10_answers]
          refine sX10_answers_64 md.1.1.1 (e_manswersNow md hi hj hs ht fun h3 y3 e3 => ?_)
          simp only [cont, Option.toList, List.cons_append, List.nil_append]
          refine rX10_answers_67 ?_
          simp only [bX10_answers_67, run, Nat.reduceAdd, lg, st1, st2, lkill, lset, fvv, sfv, kind3, cat1, retI, retA, List.length_cons, List.length_nil, true_and, and_true, or_true, true_or, qX10_answers]
          exact hq i j s t hi hj hs ht rfl rfl rfl rfl h3 ((Ms.thr.tr y2).tr y3.ms) (e3.trans t0)
/-- what has answered most so far, as a number -/
def bst (x : Nat) : Int32 := m2I (if x = 0 then 0 else if x = 17 then 1 else x + 1)
theorem e_mmainAnswer {g : Gp} {a0 a1 a2 : Int32} {h : AH} {Q : PQ} {f : Nat → Nat} {gv : Nat → List Nat} {op : Nat} {D : HD} (hf : ModR h f gv op D)
    (hq : ∀ i j s, i < D.1 → j < D.1 → s < 16 → a0 = nI i → a1 = nI j → a2 = nI s → ∀ h', Ms h h' → zI h' 99 0 = 0 → Q (.inl (some (vI (m2I (mnA (fun t => anw D f gv i j s t)))))) h')
    (hx : (inb a0 D.1 && inb a1 D.1) = false → ∀ h', Ms h h' → zI h' 99 0 = 1 → Q (.inl (some (vI 0))) h')
    (hx2 : (inb a0 D.1 && inb a1 D.1) = true → inb a2 16 = false → ∀ h', Ms h h' → zI h' 99 0 = 2 → Q (.inl (some (vI 0))) h') : Ev g mX10_mainAnswer [vR 99, vI a0, vI a1, vI a2] h Q := by
  refine nX10_mainAnswer ?_
  refine Ex.wf (fun w => ?_)
  have h1 := hf.thr w (v := 0)
  have ms := h1.1
  have hD1 := h1.ok.2.1
  have e4 := h1.2.2.2.2.1.1
  have bad1 : (inb a0 D.1 && inb a1 D.1) = false → Ex g mX10_mainAnswer 21 [vR 99, vI a0, vI a1, vI a2, vU, vU, vU, vU] [] (sI h 99 0 0) (0, 0) Q := fun e => by
    refine rX10_mainAnswer_21 ?_
    simp only [bX10_mainAnswer_21, run, Nat.reduceAdd, lg, st1, st2, lkill, lset, fvv, sfv, kind3, cat1, retI, retA, List.length_cons, List.length_nil, true_and, and_true, or_true, true_or, qX10_mainAnswer]
    refine sX10_mainAnswer_23 ms.1 (e_no ms ?_)
    simp only [cont, Option.toList, List.cons_append, List.nil_append]
    refine rX10_mainAnswer_26 ?_
    simp only [bX10_mainAnswer_26, run, Nat.reduceAdd, lg, st1, st2, lkill, lset, fvv, sfv, kind3, cat1, retI, retA, List.length_cons, List.length_nil, true_and, and_true, or_true, true_or, qX10_mainAnswer]
    exact hx e _ (Ms.thr.tr Ms.thr) zI_thr
  refine rX10_mainAnswer_0 ?_
  simp only [bX10_mainAnswer_0, run, Nat.reduceAdd, lg, st1, st2, lkill, lset, fvv, sfv, kind3, cat1, retI, retA, List.length_cons, List.length_nil, true_and, and_true, or_true, true_or, qX10_mainAnswer, hf.1.1, not_true_eq_false, not_false_eq_true, false_implies, true_and, and_true, tti]
  refine sX10_mainAnswer_7 ms.1 (e_misLanguage ms e4 hD1 ?_)
  simp only [cont, Option.toList, List.cons_append, List.nil_append]
  cases e1 : inb a0 D.1 with
  | false =>
    refine rX10_mainAnswer_10 ?_
    simp only [bX10_mainAnswer_10, run, Nat.reduceAdd, lg, st1, st2, lkill, lset, fvv, sfv, kind3, cat1, retI, retA, List.length_cons, List.length_nil, true_and, and_true, or_true, true_or, qX10_mainAnswer, show bi false = 0 from rfl, not_true_eq_false, not_false_eq_true, false_implies, true_and, and_true, tti]
    exact bad1 (by rw [e1]; rfl)
  | true =>
    refine rX10_mainAnswer_10 ?_
    simp only [bX10_mainAnswer_10, run, Nat.reduceAdd, lg, st1, st2, lkill, lset, fvv, sfv, kind3, cat1, retI, retA, List.length_cons, List.length_nil, true_and, and_true, or_true, true_or, qX10_mainAnswer, show ¬ bi true = 0 by decide, not_true_eq_false, not_false_eq_true, false_implies, true_and, and_true, tti]
    refine sX10_mainAnswer_15 ms.1 (e_misLanguage ms e4 hD1 ?_)
    simp only [cont, Option.toList, List.cons_append, List.nil_append]
    cases e2 : inb a1 D.1 with
    | false =>
      refine rX10_mainAnswer_18 ?_
      simp only [bX10_mainAnswer_18, run, Nat.reduceAdd, lg, st1, st2, lkill, lset, fvv, sfv, kind3, cat1, retI, retA, List.length_cons, List.length_nil, true_and, and_true, or_true, true_or, qX10_mainAnswer, show bi false = 0 from rfl, not_true_eq_false, not_false_eq_true, false_implies, true_and, and_true, tti]
      refine sX10_mainAnswer_23 ms.1 (e_no ms ?_)
      simp only [cont, Option.toList, List.cons_append, List.nil_append]
      refine rX10_mainAnswer_26 ?_
      simp only [bX10_mainAnswer_26, run, Nat.reduceAdd, lg, st1, st2, lkill, lset, fvv, sfv, kind3, cat1, retI, retA, List.length_cons, List.length_nil, true_and, and_true, or_true, true_or, qX10_mainAnswer]
      exact hx (by rw [e1, e2]; rfl) _ (Ms.thr.tr Ms.thr) zI_thr
    | true =>
      have e12 : (inb a0 D.1 && inb a1 D.1) = true := by rw [e1, e2]; rfl
      refine rX10_mainAnswer_18 ?_
      simp only [bX10_mainAnswer_18, run, Nat.reduceAdd, lg, st1, st2, lkill, lset, fvv, sfv, kind3, cat1, retI, retA, List.length_cons, List.length_nil, true_and, and_true, or_true, true_or, qX10_mainAnswer, show ¬ bi true = 0 by decide, not_true_eq_false, not_false_eq_true, false_implies, true_and, and_true, tti]
      refine rX10_mainAnswer_27 ?_
      simp only [bX10_mainAnswer_27, run, Nat.reduceAdd, lg, st1, st2, lkill, lset, fvv, sfv, kind3, cat1, retI, retA, List.length_cons, List.length_nil, true_and, and_true, or_true, true_or, qX10_mainAnswer]
      refine sX10_mainAnswer_28 (e_misSound ?_)
      simp only [cont, Option.toList, List.cons_append, List.nil_append]
      cases e3 : inb a2 16 with
      | false =>
        refine rX10_mainAnswer_31 ?_
        simp only [bX10_mainAnswer_31, run, Nat.reduceAdd, lg, st1, st2, lkill, lset, fvv, sfv, kind3, cat1, retI, retA, List.length_cons, List.length_nil, true_and, and_true, or_true, true_or, qX10_mainAnswer, show bi false = 0 from rfl, not_true_eq_false, not_false_eq_true, false_implies, true_and, and_true, tti]
        refine sX10_mainAnswer_36 ms.1 (e_no ms ?_)
        simp only [cont, Option.toList, List.cons_append, List.nil_append]
        refine rX10_mainAnswer_39 ?_
        simp only [bX10_mainAnswer_39, run, Nat.reduceAdd, lg, st1, st2, lkill, lset, fvv, sfv, kind3, cat1, retI, retA, List.length_cons, List.length_nil, true_and, and_true, or_true, true_or, qX10_mainAnswer]
        exact hx2 e12 e3 _ (Ms.thr.tr Ms.thr) zI_thr
      | true =>
        obtain ⟨i, hi, rfl⟩ := inb_t (by omega) e1
        obtain ⟨j, hj, rfl⟩ := inb_t (by omega) e2
        obtain ⟨s, hs, rfl⟩ := inb_t (by decide) e3
        refine rX10_mainAnswer_31 ?_
        simp only [bX10_mainAnswer_31, run, Nat.reduceAdd, lg, st1, st2, lkill, lset, fvv, sfv, kind3, cat1, retI, retA, List.length_cons, List.length_nil, true_and, and_true, or_true, true_or, qX10_mainAnswer, show ¬ bi true = 0 by decide, not_true_eq_false, not_false_eq_true, false_implies, true_and, and_true, tti]
        refine rX10_mainAnswer_40 ?_
        simp only [bX10_mainAnswer_40, run, Nat.reduceAdd, lg, st1, st2, lkill, lset, fvv, sfv, kind3, cat1, retI, retA, List.length_cons, List.length_nil, true_and, and_true, or_true, true_or, qX10_mainAnswer]
        refine Ex.wf (fun w1 => ?_)
        refine sX10_mainAnswer_41 ms.1 (e_msolveR w1 h1 fun h2 y2 e99 md => ?_)
        simp only [cont, Option.toList, List.cons_append, List.nil_append]
        refine Ex.wf (fun w2 => ?_)
        have t0 : zI h2 99 0 = 0 := by rw [e99]; exact zI_thr
        have z := fun h' y e => hq i j s hi hj hs rfl rfl rfl h' ((Ms.thr.tr y2).tr (Mq.ms y)) e
        have le : ∀ t, (fun t => anw D f gv i j s t) t ≤ 240 := fun t => anw_le fun m hm => ⟨(md.wk hm hi).1, (md.wk hm hj).1⟩
        have ev : ∀ t, t ≤ 16 → ∀ {h3 : AH} {Q : PQ}, MdA h3 f gv op D → (∀ h', Mq h3 h' → zI h' 99 0 = zI h3 99 0 → Q (.inl (some (vI (nI ((fun t => anw D f gv i j s t) (sg t)))))) h') → Ev g mX10_answersNow [vR 99, vI (nI i), vI (nI j), vI (nI s), vI (bI t)] h3 Q := fun t ht h3 Q md3 q => by
          rw [← bI_s s]
          refine e_manswersNow md3 hi hj (by omega) ht fun h' y e => ?_
          rw [show sg (s + 1) = s from rfl]
          exact q h' y e
        generalize (fun t => anw D f gv i j s t) = c at z le ev
        have wle := fun n => wn_le c n
        have wb := fun n => wn_b (B := 240) le n
        have lp : ∀ d k, k + d = 17 → ∀ (z9 : AV) (h3 : AH), Mq h2 h3 → zI h3 99 0 = 0 → Ex g mX10_mainAnswer 54 [vR 99, vI (nI i), vI (nI j), vI (nI s), vI (bst (wn c k).1), vI (nI (wn c k).2), vI (nI k), z9] [] h3 (0, 0) Q := by
          intro d
          induction d with
          | zero =>
            intro k hk z9 h3 y3 e3
            have e : k = 17 := by omega
            subst e
            refine rX10_mainAnswer_54 ?_
            simp only [bX10_mainAnswer_54, run, Nat.reduceAdd, lg, st1, st2, lkill, lset, fvv, sfv, kind3, cat1, retI, retA, List.length_cons, List.length_nil, true_and, and_true, or_true, true_or, qX10_mainAnswer, show (16 : Int32) < nI 17 ↔ True by decide, not_true_eq_false, not_false_eq_true, false_implies, true_and, and_true, tti]
            refine rX10_mainAnswer_118 ?_
            simp only [bX10_mainAnswer_118, run, Nat.reduceAdd, lg, st1, st2, lkill, lset, fvv, sfv, kind3, cat1, retI, retA, List.length_cons, List.length_nil, true_and, and_true, or_true, true_or, qX10_mainAnswer]
            exact z h3 y3 e3
          | succ d ih =>
            intro k hk z9 h3 y3 e3
            have md3 := y3.a w2 md
            have nx := ih (k + 1) (by omega)
            rw [wn] at nx
            have wk := wle k
            have wbk := wb k
            generalize wn c k = N at nx wk wbk
            have f81 : ∀ h4, Mq h2 h4 → zI h4 99 0 = 0 → Ex g mX10_mainAnswer 81 [vR 99, vI (nI i), vI (nI j), vI (nI s), vI (bst N.1), vI (nI N.2), vI (nI k), z9] [vI (nI (c k))] h4 (0, 0) Q := fun h4 y4 e4 => by
              have ck := le k
              by_cases e : N.2 < c k
              · rw [if_pos e] at nx
                have n4 := nx (vI (nI (c k))) h4 y4 e4
                refine rX10_mainAnswer_81 ?_
                simp only [bX10_mainAnswer_81, run, Nat.reduceAdd, lg, st1, st2, lkill, lset, fvv, sfv, kind3, cat1, retI, retA, List.length_cons, List.length_nil, true_and, and_true, or_true, true_or, qX10_mainAnswer, show nI N.2 < nI (c k) ↔ True from ⟨fun _ => trivial, fun _ => nI_lt e (by omega)⟩, not_true_eq_false, not_false_eq_true, false_implies, true_and, and_true, tti]
                by_cases e16 : k = 16
                · rw [show bst (k + 1, c k).1 = -1 by rw [e16]; show bst 17 = -1; decide] at n4
                  refine rX10_mainAnswer_93 ?_
                  simp only [bX10_mainAnswer_93, run, Nat.reduceAdd, lg, st1, st2, lkill, lset, fvv, sfv, kind3, cat1, retI, retA, List.length_cons, List.length_nil, true_and, and_true, or_true, true_or, qX10_mainAnswer, show nI k = 16 ↔ True from ⟨fun _ => trivial, fun _ => by rw [e16]; rfl⟩, nI_1, not_true_eq_false, not_false_eq_true, false_implies, true_and, and_true, tti]
                  exact n4
                · rw [show bst (k + 1, c k).1 = nI k by unfold bst; rw [if_neg (by omega), if_neg (by show ¬ k + 1 = 17; omega), m2I_s, bI_s]] at n4
                  refine rX10_mainAnswer_93 ?_
                  simp only [bX10_mainAnswer_93, run, Nat.reduceAdd, lg, st1, st2, lkill, lset, fvv, sfv, kind3, cat1, retI, retA, List.length_cons, List.length_nil, true_and, and_true, or_true, true_or, qX10_mainAnswer, show nI k = 16 ↔ False from ⟨fun q => e16 ((nI_eq (b := 16) (by omega) (by decide)).mp q), False.elim⟩, not_true_eq_false, not_false_eq_true, false_implies, true_and, and_true, tti]
                  refine rX10_mainAnswer_104 ?_
                  simp only [bX10_mainAnswer_104, run, Nat.reduceAdd, lg, st1, st2, lkill, lset, fvv, sfv, kind3, cat1, retI, retA, List.length_cons, List.length_nil, true_and, and_true, or_true, true_or, qX10_mainAnswer, nI_1]
                  exact n4
              · rw [if_neg e] at nx
                refine rX10_mainAnswer_81 ?_
                simp only [bX10_mainAnswer_81, run, Nat.reduceAdd, lg, st1, st2, lkill, lset, fvv, sfv, kind3, cat1, retI, retA, List.length_cons, List.length_nil, true_and, and_true, or_true, true_or, qX10_mainAnswer, show nI N.2 < nI (c k) ↔ False from ⟨nI_nlt (by omega) (by omega), False.elim⟩, nI_1, not_true_eq_false, not_false_eq_true, false_implies, true_and, and_true, tti]
                exact nx _ h4 y4 e4
            by_cases e16 : k = 16
            · refine rX10_mainAnswer_54 ?_
              simp only [bX10_mainAnswer_54, run, Nat.reduceAdd, lg, st1, st2, lkill, lset, fvv, sfv, kind3, cat1, retI, retA, List.length_cons, List.length_nil, true_and, and_true, or_true, true_or, qX10_mainAnswer, show (16 : Int32) < nI k ↔ False from ⟨nI_nlt (a := 16) (by omega) (by omega), False.elim⟩, show nI k = 16 ↔ True from ⟨fun _ => trivial, fun _ => by rw [e16]; rfl⟩, not_true_eq_false, not_false_eq_true, false_implies, true_and, and_true, tti]
              rw [← bI_0]
              refine sX10_mainAnswer_78 md3.1.1.1 (ev 0 (by decide) md3 fun h4 y4 e4 => ?_)
              simp only [cont, Option.toList, List.cons_append, List.nil_append]
              rw [show sg 0 = k by rw [e16]; rfl]
              exact f81 h4 (y3.tr y4) (e4.trans e3)
            · refine rX10_mainAnswer_54 ?_
              simp only [bX10_mainAnswer_54, run, Nat.reduceAdd, lg, st1, st2, lkill, lset, fvv, sfv, kind3, cat1, retI, retA, List.length_cons, List.length_nil, true_and, and_true, or_true, true_or, qX10_mainAnswer, show (16 : Int32) < nI k ↔ False from ⟨nI_nlt (a := 16) (by omega) (by omega), False.elim⟩, show nI k = 16 ↔ False from ⟨fun q => e16 ((nI_eq (b := 16) (by omega) (by decide)).mp q), False.elim⟩, not_true_eq_false, not_false_eq_true, false_implies, true_and, and_true, tti]
              refine rX10_mainAnswer_76 ?_
              simp only [bX10_mainAnswer_76, run, Nat.reduceAdd, lg, st1, st2, lkill, lset, fvv, sfv, kind3, cat1, retI, retA, List.length_cons, List.length_nil, true_and, and_true, or_true, true_or, qX10_mainAnswer]
              rw [← bI_s k]
              refine sX10_mainAnswer_78 md3.1.1.1 (ev (k + 1) (by omega) md3 fun h4 y4 e4 => ?_)
              simp only [cont, Option.toList, List.cons_append, List.nil_append]
              rw [show sg (k + 1) = k from rfl, bI_s]
              exact f81 h4 (y3.tr y4) (e4.trans e3)
        refine rX10_mainAnswer_44 ?_
        simp only [bX10_mainAnswer_44, run, Nat.reduceAdd, lg, st1, st2, lkill, lset, fvv, sfv, kind3, cat1, retI, retA, List.length_cons, List.length_nil, true_and, and_true, or_true, true_or, qX10_mainAnswer]
        exact lp 17 0 rfl _ h2 Mq.rf t0
