theorem e_mrecalled {g : Gp} {x y : Int32} {h : AH} {Q : PQ} {f : Nat → Nat} {gv : Nat → List Nat} {op : Nat} {D : HD} (hf : ModR h f gv op D)
    (hq : ∀ l m, l < D.1 → m < 12 → x = nI l → y = nI m → ∀ h', Ms h h' → zI h' 99 0 = 0 → Q (.inl (some (vI (nI (rcl D f gv m l).length)))) h')
    (hx : (inb x D.1 && inb y 12) = false → ∀ h', Ms h h' → zI h' 99 0 = 1 → Q (.inl (some (vI 0))) h') : Ev g mX10_recalled [vR 99, vI x, vI y] h Q := by
  refine nX10_recalled ?_
  refine rX10_recalled_0 ?_
  simp only [bX10_recalled_0, run, Nat.reduceAdd, lg, st1, st2, lkill, lset, fvv, sfv, kind3, cat1, retI, retA, List.length_cons, List.length_nil, true_and, and_true, or_true, true_or, qX10_recalled]
  refine sX10_recalled_3 hf.1.1 (e_isAsked hf (fun l m hl hm ex ey h2 y2 md t => ?_) fun e h2 y2 t => ?_)
  · simp only [cont, Option.toList, List.cons_append, List.nil_append]
    subst ex
    subst ey
    have ok := rcl_ok (l := l) fun d hd => (md.wk hm (l := d) hd).1
    refine rX10_recalled_6 ?_
    simp only [bX10_recalled_6, run, Nat.reduceAdd, lg, st1, st2, lkill, lset, fvv, sfv, kind3, cat1, retI, retA, List.length_cons, List.length_nil, true_and, and_true, or_true, true_or, qX10_recalled, show ¬ (1 : Int32) = 0 by decide, not_true_eq_false, not_false_eq_true, false_implies, true_and, and_true, tti]
    refine sX10_recalled_12 md.1.1.1 (e_mrecalledNow md hm hl fun h3 y3 e3 => ?_)
    simp only [cont, Option.toList, List.cons_append, List.nil_append]
    refine sX10_recalled_15 (e_mlen ok ?_)
    simp only [cont, Option.toList, List.cons_append, List.nil_append]
    refine rX10_recalled_18 ?_
    simp only [bX10_recalled_18, run, Nat.reduceAdd, lg, st1, st2, lkill, lset, fvv, sfv, kind3, cat1, retI, retA, List.length_cons, List.length_nil, true_and, and_true, or_true, true_or, qX10_recalled]
    exact hq l m hl hm rfl rfl h3 (y2.tr y3.ms) (e3.trans t)
  · simp only [cont, Option.toList, List.cons_append, List.nil_append]
    refine rX10_recalled_6 ?_
    simp only [bX10_recalled_6, run, Nat.reduceAdd, lg, st1, st2, lkill, lset, fvv, sfv, kind3, cat1, retI, retA, List.length_cons, List.length_nil, true_and, and_true, or_true, true_or, qX10_recalled, not_true_eq_false, not_false_eq_true, false_implies, true_and, and_true, tti]
    refine rX10_recalled_21 ?_
    simp only [bX10_recalled_21, run, Nat.reduceAdd, lg, st1, st2, lkill, lset, fvv, sfv, kind3, cat1, retI, retA, List.length_cons, List.length_nil, true_and, and_true, or_true, true_or, qX10_recalled]
    exact hx e h2 y2 t
theorem e_mrecalledAt {g : Gp} {x y z : Int32} {h : AH} {Q : PQ} {f : Nat → Nat} {gv : Nat → List Nat} {op : Nat} {D : HD} (hf : ModR h f gv op D)
    (hq : ∀ l m, l < D.1 → m < 12 → x = nI l → y = nI m → (∀ p, p < (rcl D f gv m l).length → z = nI p → ∀ h', Ms h h' → zI h' 99 0 = 0 → Q (.inl (some (vI (nI ((rcl D f gv m l).getD p 0))))) h') ∧ (inb z (rcl D f gv m l).length = false → ∀ h', Ms h h' → zI h' 99 0 = 1 → Q (.inl (some (vI 0))) h'))
    (hx : (inb x D.1 && inb y 12) = false → ∀ h', Ms h h' → zI h' 99 0 = 1 → Q (.inl (some (vI 0))) h') : Ev g mX10_recalledAt [vR 99, vI x, vI y, vI z] h Q := by
  refine nX10_recalledAt ?_
  refine rX10_recalledAt_0 ?_
  simp only [bX10_recalledAt_0, run, Nat.reduceAdd, lg, st1, st2, lkill, lset, fvv, sfv, kind3, cat1, retI, retA, List.length_cons, List.length_nil, true_and, and_true, or_true, true_or, qX10_recalledAt]
  refine sX10_recalledAt_3 hf.1.1 (e_isAsked hf (fun l m hl hm ex ey h2 y2 md t => ?_) fun e h2 y2 t => ?_)
  · simp only [cont, Option.toList, List.cons_append, List.nil_append]
    subst ex
    subst ey
    obtain ⟨q1, q2⟩ := hq l m hl hm rfl rfl
    have wk := rcl_ok (l := l) fun d hd => (md.wk hm (l := d) hd).1
    have w10 := wk.1
    refine rX10_recalledAt_6 ?_
    simp only [bX10_recalledAt_6, run, Nat.reduceAdd, lg, st1, st2, lkill, lset, fvv, sfv, kind3, cat1, retI, retA, List.length_cons, List.length_nil, true_and, and_true, or_true, true_or, qX10_recalledAt, show ¬ (1 : Int32) = 0 by decide, not_true_eq_false, not_false_eq_true, false_implies, true_and, and_true, tti]
    refine rX10_recalledAt_11 ?_
    simp only [bX10_recalledAt_11, run, Nat.reduceAdd, lg, st1, st2, lkill, lset, fvv, sfv, kind3, cat1, retI, retA, List.length_cons, List.length_nil, true_and, and_true, or_true, true_or, qX10_recalledAt]
    refine Ex.wf (fun w2 => ?_)
    refine sX10_recalledAt_14 md.1.1.1 (e_mrecalledNow md hm hl fun h3 y3 e3 => ?_)
    simp only [cont, Option.toList, List.cons_append, List.nil_append]
    have ms3 := (y3.a w2 md).1.1
    refine rX10_recalledAt_17 ?_
    simp only [bX10_recalledAt_17, run, Nat.reduceAdd, lg, st1, st2, lkill, lset, fvv, sfv, kind3, cat1, retI, retA, List.length_cons, List.length_nil, true_and, and_true, or_true, true_or, qX10_recalledAt]
    refine sX10_recalledAt_23 (e_mlen wk ?_)
    simp only [cont, Option.toList, List.cons_append, List.nil_append]
    refine rX10_recalledAt_26 ?_
    simp only [bX10_recalledAt_26, run, Nat.reduceAdd, lg, st1, st2, lkill, lset, fvv, sfv, kind3, cat1, retI, retA, List.length_cons, List.length_nil, true_and, and_true, or_true, true_or, qX10_recalledAt]
    refine sX10_recalledAt_28 (e_isInZ (by omega) ?_)
    simp only [cont, Option.toList, List.cons_append, List.nil_append]
    cases e1 : inb z (rcl D f gv m l).length with
    | false =>
      refine rX10_recalledAt_31 ?_
      simp only [bX10_recalledAt_31, run, Nat.reduceAdd, lg, st1, st2, lkill, lset, fvv, sfv, kind3, cat1, retI, retA, List.length_cons, List.length_nil, true_and, and_true, or_true, true_or, qX10_recalledAt, show bi false = 0 from rfl, not_true_eq_false, not_false_eq_true, false_implies, true_and, and_true, tti]
      refine rX10_recalledAt_43 ?_
      simp only [bX10_recalledAt_43, run, Nat.reduceAdd, lg, st1, st2, lkill, lset, fvv, sfv, kind3, cat1, retI, retA, List.length_cons, List.length_nil, true_and, and_true, or_true, true_or, qX10_recalledAt]
      refine sX10_recalledAt_45 ms3.1 (e_no ms3 ?_)
      simp only [cont, Option.toList, List.cons_append, List.nil_append]
      refine rX10_recalledAt_48 ?_
      simp only [bX10_recalledAt_48, run, Nat.reduceAdd, lg, st1, st2, lkill, lset, fvv, sfv, kind3, cat1, retI, retA, List.length_cons, List.length_nil, true_and, and_true, or_true, true_or, qX10_recalledAt]
      exact q2 e1 _ ((y2.tr y3.ms).tr Ms.thr) zI_thr
    | true =>
      obtain ⟨p, hp, rfl⟩ := inb_t (by omega) e1
      refine rX10_recalledAt_31 ?_
      simp only [bX10_recalledAt_31, run, Nat.reduceAdd, lg, st1, st2, lkill, lset, fvv, sfv, kind3, cat1, retI, retA, List.length_cons, List.length_nil, true_and, and_true, or_true, true_or, qX10_recalledAt, show ¬ bi true = 0 by decide, not_true_eq_false, not_false_eq_true, false_implies, true_and, and_true, tti]
      refine sX10_recalledAt_37 (e_mat wk hp ?_)
      simp only [cont, Option.toList, List.cons_append, List.nil_append]
      refine rX10_recalledAt_40 ?_
      simp only [bX10_recalledAt_40, run, Nat.reduceAdd, lg, st1, st2, lkill, lset, fvv, sfv, kind3, cat1, retI, retA, List.length_cons, List.length_nil, true_and, and_true, or_true, true_or, qX10_recalledAt]
      exact q1 p hp rfl h3 (y2.tr y3.ms) (e3.trans t)
  · simp only [cont, Option.toList, List.cons_append, List.nil_append]
    refine rX10_recalledAt_6 ?_
    simp only [bX10_recalledAt_6, run, Nat.reduceAdd, lg, st1, st2, lkill, lset, fvv, sfv, kind3, cat1, retI, retA, List.length_cons, List.length_nil, true_and, and_true, or_true, true_or, qX10_recalledAt, not_true_eq_false, not_false_eq_true, false_implies, true_and, and_true, tti]
    exact hx e h2 y2 t
theorem e_mwellNow {g : Gp} {l : Nat} {h : AH} {Q : PQ} {f : Nat → Nat} {gv : Nat → List Nat} {op : Nat} {D : HD} (md : MdA h f gv op D) (hl : l < D.1) (hq : ∀ h', Mq h h' → zI h' 99 0 = zI h 99 0 → Q (.inl (some (vI (nI (rwl D f gv l 12))))) h') : Ev g mX10_wellNow [vR 99, vI (nI l)] h Q := by
  have hD1 := md.1.ok.2.1
  refine nX10_wellNow ?_
  refine Ex.wf (fun w => ?_)
  have lp : ∀ d m, m + d = 12 → ∀ h2, Mq h h2 → zI h2 99 0 = zI h 99 0 → Ex g mX10_wellNow 4 [vR 99, vI (nI l), vI (nI (rwl D f gv l m)), vI (nI m)] [] h2 (0, 0) Q := by
    intro d
    induction d with
    | zero =>
      intro m hm h2 y e
      have e9 : m = 12 := by omega
      subst e9
      refine rX10_wellNow_4 ?_
      simp only [bX10_wellNow_4, run, Nat.reduceAdd, lg, st1, st2, lkill, lset, fvv, sfv, kind3, cat1, retI, retA, List.length_cons, List.length_nil, true_and, and_true, or_true, true_or, qX10_wellNow, show ((12 : Int32) ≤ nI 12) = True by decide, not_true_eq_false, not_false_eq_true, false_implies, true_and, and_true, tti]
      refine rX10_wellNow_49 ?_
      simp only [bX10_wellNow_49, run, Nat.reduceAdd, lg, st1, st2, lkill, lset, fvv, sfv, kind3, cat1, retI, retA, List.length_cons, List.length_nil, true_and, and_true, or_true, true_or, qX10_wellNow]
      exact hq h2 y e
    | succ d ih =>
      intro m hm h2 y e
      refine Ex.wf (fun w2 => ?_)
      have hm12 : m < 12 := by omega
      have nx := ih (m + 1) (by omega)
      rw [rwl] at nx
      generalize rwl D f gv l m = c at nx
      have md2 := y.a w md
      have wm := (md2.wk hm12 hl).1
      have wr := rcl_ok (l := l) fun d hd => (md2.wk hm12 (l := d) hd).1
      have key := wM_inj wr wm
      have no : ¬ ((cel D f gv m l).1 = rcl D f gv m l ∧ ¬ (cel D f gv m l).1 = []) → ∀ h3, Mq h h3 → zI h3 99 0 = zI h 99 0 → Ex g mX10_wellNow 40 [vR 99, vI (nI l), vI (nI c), vI (nI m)] [vI (nI c)] h3 (0, 0) Q := fun q h3 y3 e3 => by
        rw [if_neg q] at nx
        refine rX10_wellNow_40 ?_
        simp only [bX10_wellNow_40, run, Nat.reduceAdd, lg, st1, st2, lkill, lset, fvv, sfv, kind3, cat1, retI, retA, List.length_cons, List.length_nil, true_and, and_true, or_true, true_or, qX10_wellNow, show nI c + 0 = nI c from nI_add c 0, nI_1, not_true_eq_false, not_false_eq_true, false_implies, true_and, and_true, tti]
        exact nx h3 y3 e3
      refine rX10_wellNow_4 ?_
      simp only [bX10_wellNow_4, run, Nat.reduceAdd, lg, st1, st2, lkill, lset, fvv, sfv, kind3, cat1, retI, retA, List.length_cons, List.length_nil, true_and, and_true, or_true, true_or, qX10_wellNow, show ((12 : Int32) ≤ nI m) ↔ False from ⟨nI_ge (b := 12) (by omega) (by omega), False.elim⟩, not_true_eq_false, not_false_eq_true, false_implies, true_and, and_true, tti]
      refine sX10_wellNow_14 md2.1.1.1 (e_mhasWord md2.1.1 (by omega) hm12 wm (md2.2 l hl m hm12) ?_)
      simp only [cont, Option.toList, List.cons_append, List.nil_append]
      by_cases hw : (cel D f gv m l).1 = []
      · refine rX10_wellNow_17 ?_
        simp only [bX10_wellNow_17, run, Nat.reduceAdd, lg, st1, st2, lkill, lset, fvv, sfv, kind3, cat1, retI, retA, List.length_cons, List.length_nil, true_and, and_true, or_true, true_or, qX10_wellNow, if_pos hw, not_true_eq_false, not_false_eq_true, false_implies, true_and, and_true, tti]
        exact no (fun q => q.2 hw) h2 y e
      · refine rX10_wellNow_17 ?_
        simp only [bX10_wellNow_17, run, Nat.reduceAdd, lg, st1, st2, lkill, lset, fvv, sfv, kind3, cat1, retI, retA, List.length_cons, List.length_nil, true_and, and_true, or_true, true_or, qX10_wellNow, if_neg hw, show ¬ (1 : Int32) = 0 by decide, not_true_eq_false, not_false_eq_true, false_implies, true_and, and_true, tti]
        refine sX10_wellNow_23 md2.1.1.1 (e_mrecalledNow md2 hm12 hl fun h3 y3 e3 => ?_)
        simp only [cont, Option.toList, List.cons_append, List.nil_append]
        have md3 := y3.a w2 md2
        refine rX10_wellNow_26 ?_
        simp only [bX10_wellNow_26, run, Nat.reduceAdd, lg, st1, st2, lkill, lset, fvv, sfv, kind3, cat1, retI, retA, List.length_cons, List.length_nil, true_and, and_true, or_true, true_or, qX10_wellNow]
        refine sX10_wellNow_29 md3.1.1.1 (e_mwordOf md3.1.1 (by omega) hm12 (md3.2 l hl m hm12) ?_)
        simp only [cont, Option.toList, List.cons_append, List.nil_append]
        by_cases same : (cel D f gv m l).1 = rcl D f gv m l
        · rw [if_pos ⟨same, hw⟩] at nx
          refine rX10_wellNow_32 ?_
          simp only [bX10_wellNow_32, run, Nat.reduceAdd, lg, st1, st2, lkill, lset, fvv, sfv, kind3, cat1, retI, retA, List.length_cons, List.length_nil, true_and, and_true, or_true, true_or, qX10_wellNow, lg_cmp_eq, show wM (rcl D f gv m l) = wM (cel D f gv m l).1 ↔ True from ⟨fun _ => trivial, fun _ => key.mpr same.symm⟩, nI_1, not_true_eq_false, not_false_eq_true, false_implies, true_and, and_true, tti]
          exact nx h3 (y.tr y3) (e3.trans e)
        · refine rX10_wellNow_32 ?_
          simp only [bX10_wellNow_32, run, Nat.reduceAdd, lg, st1, st2, lkill, lset, fvv, sfv, kind3, cat1, retI, retA, List.length_cons, List.length_nil, true_and, and_true, or_true, true_or, qX10_wellNow, lg_cmp_eq, show wM (rcl D f gv m l) = wM (cel D f gv m l).1 ↔ False from ⟨fun q => same (key.mp q).symm, False.elim⟩, not_true_eq_false, not_false_eq_true, false_implies, true_and, and_true, tti]
          exact no (fun q => same q.1) h3 (y.tr y3) (e3.trans e)
  refine rX10_wellNow_0 ?_
  simp only [bX10_wellNow_0, run, Nat.reduceAdd, lg, st1, st2, lkill, lset, fvv, sfv, kind3, cat1, retI, retA, List.length_cons, List.length_nil, true_and, and_true, or_true, true_or, qX10_wellNow]
  exact lp 12 0 rfl h Mq.rf rfl
theorem e_mrecalledWell {g : Gp} {x : Int32} {h : AH} {Q : PQ} {f : Nat → Nat} {gv : Nat → List Nat} {op : Nat} {D : HD} (hf : ModR h f gv op D)
    (hq : ∀ l, l < D.1 → x = nI l → ∀ h', Ms h h' → zI h' 99 0 = 0 → Q (.inl (some (vI (nI (rwl D f gv l 12))))) h')
    (hx : inb x D.1 = false → ∀ h', Ms h h' → zI h' 99 0 = 1 → Q (.inl (some (vI 0))) h') : Ev g mX10_recalledWell [vR 99, vI x] h Q := by
  refine nX10_recalledWell ?_
  refine rX10_recalledWell_0 ?_
  simp only [bX10_recalledWell_0, run, Nat.reduceAdd, lg, st1, st2, lkill, lset, fvv, sfv, kind3, cat1, retI, retA, List.length_cons, List.length_nil, true_and, and_true, or_true, true_or, qX10_recalledWell]
  refine sX10_recalledWell_3 hf.1.1 (e_isAsked (y := 0) hf (fun l m hl hm ex ey h2 y2 md t => ?_) fun e h2 y2 t => ?_)
  · simp only [cont, Option.toList, List.cons_append, List.nil_append]
    subst ex
    refine rX10_recalledWell_6 ?_
    simp only [bX10_recalledWell_6, run, Nat.reduceAdd, lg, st1, st2, lkill, lset, fvv, sfv, kind3, cat1, retI, retA, List.length_cons, List.length_nil, true_and, and_true, or_true, true_or, qX10_recalledWell, show ¬ (1 : Int32) = 0 by decide, not_true_eq_false, not_false_eq_true, false_implies, true_and, and_true, tti]
    refine sX10_recalledWell_11 md.1.1.1 (e_mwellNow md hl fun h3 y3 e3 => ?_)
    simp only [cont, Option.toList, List.cons_append, List.nil_append]
    refine rX10_recalledWell_14 ?_
    simp only [bX10_recalledWell_14, run, Nat.reduceAdd, lg, st1, st2, lkill, lset, fvv, sfv, kind3, cat1, retI, retA, List.length_cons, List.length_nil, true_and, and_true, or_true, true_or, qX10_recalledWell]
    exact hq l hl rfl h3 (y2.tr y3.ms) (e3.trans t)
  · simp only [cont, Option.toList, List.cons_append, List.nil_append]
    rw [show inb 0 12 = true by decide, Bool.and_true] at e
    refine rX10_recalledWell_6 ?_
    simp only [bX10_recalledWell_6, run, Nat.reduceAdd, lg, st1, st2, lkill, lset, fvv, sfv, kind3, cat1, retI, retA, List.length_cons, List.length_nil, true_and, and_true, or_true, true_or, qX10_recalledWell, not_true_eq_false, not_false_eq_true, false_implies, true_and, and_true, tti]
    refine rX10_recalledWell_17 ?_
    simp only [bX10_recalledWell_17, run, Nat.reduceAdd, lg, st1, st2, lkill, lset, fvv, sfv, kind3, cat1, retI, retA, List.length_cons, List.length_nil, true_and, and_true, or_true, true_or, qX10_recalledWell]
    exact hx e h2 y2 t
