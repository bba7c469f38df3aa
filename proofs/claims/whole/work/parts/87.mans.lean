/-! ===== the model: what answers ===== -/
theorem e_mareKin {g : Gp} {i j m : Nat} {h : AH} {Q : PQ} {f : Nat → Nat} {gv : Nat → List Nat} {op : Nat} {D : HD} (md : MdA h f gv op D) (hm : m < 12) (hi : i < D.1) (hj : j < D.1) (hq : Q (.inl (some (vI (if kin (cel D f gv m i) (cel D f gv m j) then 1 else 0)))) h) : Ev g mX10_areKin [vR 99, vI (nI i), vI (nI j), vI (nI m)] h Q := by
  have hD1 := md.1.ok.2.1
  have oi := md.wk hm hi
  have oj := md.wk hm hj
  have ms := md.1.1
  refine nX10_areKin ?_
  refine rX10_areKin_0 ?_
  simp only [bX10_areKin_0, run, Nat.reduceAdd, lg, st1, st2, lkill, lset, fvv, sfv, kind3, cat1, retI, retA, List.length_cons, List.length_nil, true_and, and_true, or_true, true_or, qX10_areKin]
  refine sX10_areKin_3 ms.1 (e_mhasWord ms (by omega) hm oi.1 (md.2 i hi m hm) ?_)
  simp only [cont, Option.toList, List.cons_append, List.nil_append]
  by_cases ei : (cel D f gv m i).1 = []
  · rw [if_neg (fun q => q.1 ei)] at hq
    refine rX10_areKin_6 ?_
    simp only [bX10_areKin_6, run, Nat.reduceAdd, lg, st1, st2, lkill, lset, fvv, sfv, kind3, cat1, retI, retA, List.length_cons, List.length_nil, true_and, and_true, or_true, true_or, qX10_areKin, if_pos ei, not_true_eq_false, not_false_eq_true, false_implies, true_and, and_true, tti]
    refine rX10_areKin_37 ?_
    simp only [bX10_areKin_37, run, Nat.reduceAdd, lg, st1, st2, lkill, lset, fvv, sfv, kind3, cat1, retI, retA, List.length_cons, List.length_nil, true_and, and_true, or_true, true_or, qX10_areKin]
    exact hq
  · refine rX10_areKin_6 ?_
    simp only [bX10_areKin_6, run, Nat.reduceAdd, lg, st1, st2, lkill, lset, fvv, sfv, kind3, cat1, retI, retA, List.length_cons, List.length_nil, true_and, and_true, or_true, true_or, qX10_areKin, if_neg ei, show ¬ (1 : Int32) = 0 by decide, not_true_eq_false, not_false_eq_true, false_implies, true_and, and_true, tti]
    refine sX10_areKin_12 ms.1 (e_mhasWord ms (by omega) hm oj.1 (md.2 j hj m hm) ?_)
    simp only [cont, Option.toList, List.cons_append, List.nil_append]
    by_cases ej : (cel D f gv m j).1 = []
    · rw [if_neg (fun q => q.2.1 ej)] at hq
      refine rX10_areKin_15 ?_
      simp only [bX10_areKin_15, run, Nat.reduceAdd, lg, st1, st2, lkill, lset, fvv, sfv, kind3, cat1, retI, retA, List.length_cons, List.length_nil, true_and, and_true, or_true, true_or, qX10_areKin, if_pos ej, not_true_eq_false, not_false_eq_true, false_implies, true_and, and_true, tti]
      refine rX10_areKin_37 ?_
      simp only [bX10_areKin_37, run, Nat.reduceAdd, lg, st1, st2, lkill, lset, fvv, sfv, kind3, cat1, retI, retA, List.length_cons, List.length_nil, true_and, and_true, or_true, true_or, qX10_areKin]
      exact hq
    · refine rX10_areKin_15 ?_
      simp only [bX10_areKin_15, run, Nat.reduceAdd, lg, st1, st2, lkill, lset, fvv, sfv, kind3, cat1, retI, retA, List.length_cons, List.length_nil, true_and, and_true, or_true, true_or, qX10_areKin, if_neg ej, show ¬ (1 : Int32) = 0 by decide, not_true_eq_false, not_false_eq_true, false_implies, true_and, and_true, tti]
      refine sX10_areKin_21 ms.1 (e_moriginOf ms (by omega) hm oi.1 (fun q => absurd q ei) (md.2 i hi m hm) ?_)
      simp only [cont, Option.toList, List.cons_append, List.nil_append]
      refine rX10_areKin_24 ?_
      simp only [bX10_areKin_24, run, Nat.reduceAdd, lg, st1, st2, lkill, lset, fvv, sfv, kind3, cat1, retI, retA, List.length_cons, List.length_nil, true_and, and_true, or_true, true_or, qX10_areKin]
      refine sX10_areKin_27 ms.1 (e_moriginOf ms (by omega) hm oj.1 (fun q => absurd q ej) (md.2 j hj m hm) ?_)
      simp only [cont, Option.toList, List.cons_append, List.nil_append]
      have key := bI_inj (a := (cel D f gv m i).2.1) (b := (cel D f gv m j).2.1) (by have := oi.2.1; omega) (by have := oj.2.1; omega)
      by_cases eo : (cel D f gv m i).2.1 = (cel D f gv m j).2.1
      · rw [if_pos ⟨ei, ej, eo⟩] at hq
        refine rX10_areKin_30 ?_
        simp only [bX10_areKin_30, run, Nat.reduceAdd, lg, st1, st2, lkill, lset, fvv, sfv, kind3, cat1, retI, retA, List.length_cons, List.length_nil, true_and, and_true, or_true, true_or, qX10_areKin, show bI (cel D f gv m i).2.1 = bI (cel D f gv m j).2.1 ↔ True from ⟨fun _ => trivial, fun _ => key.mpr eo⟩, not_true_eq_false, not_false_eq_true, false_implies, true_and, and_true, tti]
        exact hq
      · rw [if_neg (fun q => eo q.2.2)] at hq
        refine rX10_areKin_30 ?_
        simp only [bX10_areKin_30, run, Nat.reduceAdd, lg, st1, st2, lkill, lset, fvv, sfv, kind3, cat1, retI, retA, List.length_cons, List.length_nil, true_and, and_true, or_true, true_or, qX10_areKin, show bI (cel D f gv m i).2.1 = bI (cel D f gv m j).2.1 ↔ False from ⟨fun q => eo (key.mp q), False.elim⟩, not_true_eq_false, not_false_eq_true, false_implies, true_and, and_true, tti]
        refine rX10_areKin_37 ?_
        simp only [bX10_areKin_37, run, Nat.reduceAdd, lg, st1, st2, lkill, lset, fvv, sfv, kind3, cat1, retI, retA, List.length_cons, List.length_nil, true_and, and_true, or_true, true_or, qX10_areKin]
        exact hq
theorem bI_sg {s : Nat} (hs : s ≤ 16) : (bI s < 0 ↔ s = 0) ∧ (¬ s = 0 → bI s = nI (sg s)) ∧ (s = 0 → sg s = 16) := by
  refine ⟨bI_neg (by omega), fun h => ?_, fun h => if_pos h⟩
  obtain ⟨t, rfl⟩ : ∃ t, s = t + 1 := ⟨s - 1, by omega⟩
  rw [bI_s]
  unfold sg
  rw [if_neg h]
  rfl
theorem ge0 {x : Int32} : 0 ≤ x ↔ ¬ x < 0 := Int32.not_lt.symm
theorem e_manswersNow {g : Gp} {i j s t : Nat} {h : AH} {Q : PQ} {f : Nat → Nat} {gv : Nat → List Nat} {op : Nat} {D : HD} (md : MdA h f gv op D) (hi : i < D.1) (hj : j < D.1) (hs : s ≤ 16) (ht : t ≤ 16)
    (hq : ∀ h', Mq h h' → zI h' 99 0 = zI h 99 0 → Q (.inl (some (vI (nI (anw D f gv i j (sg s) (sg t)))))) h') : Ev g mX10_answersNow [vR 99, vI (nI i), vI (nI j), vI (bI s), vI (bI t)] h Q := by
  refine nX10_answersNow ?_
  refine Ex.wf (fun w => ?_)
  obtain ⟨s1, s2, s3⟩ := bI_sg hs
  obtain ⟨t1, t2, t3⟩ := bI_sg ht
  have gs := sg_lt hs
  have gt := sg_lt ht
  unfold anw at hq
  have lp : ∀ d m, m + d = 12 → ∀ (z : AV) (h2 : AH), Mq h h2 → zI h2 99 0 = zI h 99 0 → Ex g mX10_answersNow 6 [vR 99, vI (nI i), vI (nI j), vI (bI s), vI (bI t), vI (nI (ans (fun m => kcl f (cel D f gv m i) (cel D f gv m j)) (sg s) (sg t) m)), vI (nI m), z] [] h2 (0, 0) Q := by
    intro d
    induction d with
    | zero =>
      intro m hm z h2 y2 e2
      have e : m = 12 := by omega
      subst e
      refine rX10_answersNow_6 ?_
      simp only [bX10_answersNow_6, run, Nat.reduceAdd, lg, st1, st2, lkill, lset, fvv, sfv, kind3, cat1, retI, retA, List.length_cons, List.length_nil, true_and, and_true, or_true, true_or, qX10_answersNow, show ((12 : Int32) ≤ nI 12) = True by decide, not_true_eq_false, not_false_eq_true, false_implies, true_and, and_true, tti]
      refine rX10_answersNow_122 ?_
      simp only [bX10_answersNow_122, run, Nat.reduceAdd, lg, st1, st2, lkill, lset, fvv, sfv, kind3, cat1, retI, retA, List.length_cons, List.length_nil, true_and, and_true, or_true, true_or, qX10_answersNow]
      exact hq h2 y2 e2
    | succ d ih =>
      intro m hm z h2 y2 e2
      refine Ex.wf (fun w2 => ?_)
      have hm12 : m < 12 := by omega
      have md2 := y2.a w md
      have ms2 := md2.1.1
      have oi := md2.wk hm12 hi
      have oj := md2.wk hm12 hj
      have nx := ih (m + 1) (by omega)
      rw [ans] at nx
      generalize ans (fun m => kcl f (cel D f gv m i) (cel D f gv m j)) (sg s) (sg t) m = c at nx
      refine rX10_answersNow_6 ?_
      simp only [bX10_answersNow_6, run, Nat.reduceAdd, lg, st1, st2, lkill, lset, fvv, sfv, kind3, cat1, retI, retA, List.length_cons, List.length_nil, true_and, and_true, or_true, true_or, qX10_answersNow, show ((12 : Int32) ≤ nI m) ↔ False from ⟨nI_ge (b := 12) (by omega) (by omega), False.elim⟩, not_true_eq_false, not_false_eq_true, false_implies, true_and, and_true, tti]
      refine sX10_answersNow_18 ms2.1 (e_mareKin md2 hm12 hi hj ?_)
      simp only [cont, Option.toList, List.cons_append, List.nil_append]
      by_cases ki : kin (cel D f gv m i) (cel D f gv m j)
      · have eK : kcl f (cel D f gv m i) (cel D f gv m j) = cls f (cel D f gv m i).1 (cel D f gv m j).1 := by
          unfold kcl clo
          rw [if_pos ki, if_pos ⟨ki.1, ki.2.1⟩]
        rw [eK] at nx
        have l20 := cls_len (f := f) oi.1 oj.1
        have le : ∀ k, k < (cls f (cel D f gv m i).1 (cel D f gv m j).1).length → ((cls f (cel D f gv m i).1 (cel D f gv m j).1).getD k (0, 0)).1 ≤ 16 ∧ ((cls f (cel D f gv m i).1 (cel D f gv m j).1).getD k (0, 0)).2 ≤ 16 := fun k hk => by
          have e9 : (cls f (cel D f gv m i).1 (cel D f gv m j).1).getD k (0, 0) ∈ cls f (cel D f gv m i).1 (cel D f gv m j).1 := by
            rw [List.getD_eq_getElem?_getD, List.getElem?_eq_getElem hk]
            exact List.getElem_mem hk
          exact clf_le _ _ _ oi.1.2 oj.1.2 _ e9
        refine rX10_answersNow_21 ?_
        simp only [bX10_answersNow_21, run, Nat.reduceAdd, lg, st1, st2, lkill, lset, fvv, sfv, kind3, cat1, retI, retA, List.length_cons, List.length_nil, true_and, and_true, or_true, true_or, qX10_answersNow, if_pos ki, show ¬ (1 : Int32) = 0 by decide, not_true_eq_false, not_false_eq_true, false_implies, true_and, and_true, tti]
        refine rX10_answersNow_27 ?_
        simp only [bX10_answersNow_27, run, Nat.reduceAdd, lg, st1, st2, lkill, lset, fvv, sfv, kind3, cat1, retI, retA, List.length_cons, List.length_nil, true_and, and_true, or_true, true_or, qX10_answersNow]
        refine sX10_answersNow_32 ms2.1 (e_mwordOf ms2 (by have := md.1.ok.2.1; omega) hm12 (md2.2 i hi m hm12) ?_)
        simp only [cont, Option.toList, List.cons_append, List.nil_append]
        refine rX10_answersNow_35 ?_
        simp only [bX10_answersNow_35, run, Nat.reduceAdd, lg, st1, st2, lkill, lset, fvv, sfv, kind3, cat1, retI, retA, List.length_cons, List.length_nil, true_and, and_true, or_true, true_or, qX10_answersNow]
        refine sX10_answersNow_39 ms2.1 (e_mwordOf ms2 (by have := md.1.ok.2.1; omega) hm12 (md2.2 j hj m hm12) ?_)
        simp only [cont, Option.toList, List.cons_append, List.nil_append]
        refine sX10_answersNow_42 ms2.1 (e_malign ms2 md2.1.2.2.1 oi.1 oj.1 fun h3 y3 e3 co3 => ?_)
        simp only [cont, Option.toList, List.cons_append, List.nil_append]
        have nx3 := fun z => nx z h3 (y2.tr y3) (e3.trans e2)
        have ms3 := (y3.a w2 md2).1.1
        generalize cls f (cel D f gv m i).1 (cel D f gv m j).1 = cs at nx3 l20 le co3
        have inner : ∀ d k, k + d = cs.length → Ex g mX10_answersNow 49 [vR 99, vI (nI i), vI (nI j), vI (bI s), vI (bI t), vI (nI (c + cot cs (sg s) (sg t) k)), vI (nI m), vI (nI k)] [] h3 (0, 0) Q := by
          intro d
          induction d with
          | zero =>
            intro k hk
            have e : k = cs.length := by omega
            subst e
            refine rX10_answersNow_49 ?_
            simp only [bX10_answersNow_49, run, Nat.reduceAdd, lg, st1, st2, lkill, lset, fvv, sfv, kind3, cat1, retI, retA, List.length_cons, List.length_nil, true_and, and_true, or_true, true_or, qX10_answersNow, ms3.1, co3.1, show nI cs.length ≤ nI cs.length ↔ True from ⟨fun _ => trivial, fun _ => nI_le (Nat.le_refl _) (by omega)⟩, not_true_eq_false, not_false_eq_true, false_implies, true_and, and_true, tti]
            refine rX10_answersNow_116 ?_
            simp only [bX10_answersNow_116, run, Nat.reduceAdd, lg, st1, st2, lkill, lset, fvv, sfv, kind3, cat1, retI, retA, List.length_cons, List.length_nil, true_and, and_true, or_true, true_or, qX10_answersNow, nI_1]
            exact nx3 _
          | succ d ih2 =>
            intro k hk
            have hk1 : k < cs.length := by omega
            have n2 := ih2 (k + 1) (by omega)
            rw [cot] at n2
            generalize cot cs (sg s) (sg t) k = b at n2
            have kk : (nI k).toNatClampNeg = k := nI_clamp (by omega)
            have vk := vp_in_nI (show k < 20 by omega) (by omega : 20 < 2 ^ 31)
            obtain ⟨c1, c2⟩ := co3.2 k hk1
            obtain ⟨le1, le2⟩ := le k hk1
            have lt1 : nI k < nI cs.length := nI_lt hk1 (by omega)
            have nle : nI cs.length ≤ nI k ↔ False := ⟨nI_ge (by omega) (by omega), False.elim⟩
            generalize cs.getD k (0, 0) = e at n2 c1 c2 le1 le2
            have no : ¬ (e.1 = sg s ∧ e.2 = sg t) → Ex g mX10_answersNow 106 [vR 99, vI (nI i), vI (nI j), vI (bI s), vI (bI t), vI (nI (c + b)), vI (nI m), vI (nI k)] [vI (nI (c + b))] h3 (0, 0) Q := fun q => by
              rw [if_neg q] at n2
              refine rX10_answersNow_106 ?_
              simp only [bX10_answersNow_106, run, Nat.reduceAdd, lg, st1, st2, lkill, lset, fvv, sfv, kind3, cat1, retI, retA, List.length_cons, List.length_nil, true_and, and_true, or_true, true_or, qX10_answersNow, show nI (c + b) + 0 = nI (c + b) from nI_add _ 0, nI_1, not_true_eq_false, not_false_eq_true, false_implies, true_and, and_true, tti]
              exact n2
            have q1 : ∀ x, x < 17 → (nI e.1 = nI x ↔ e.1 = x) := fun x hx => nI_eq (by omega) (by omega)
            have q2 : ∀ x, x < 17 → (nI e.2 = nI x ↔ e.2 = x) := fun x hx => nI_eq (by omega) (by omega)
            -- the lower sound
            have f97 : e.1 = sg s → (¬ t = 0 → Ex g mX10_answersNow 97 [vR 99, vI (nI i), vI (nI j), vI (bI s), vI (bI t), vI (nI (c + b)), vI (nI m), vI (nI k)] [vI (nI e.2), vI (nI (c + b))] h3 (0, 0) Q) ∧ (t = 0 → ¬ e.2 = 16 → Ex g mX10_answersNow 106 [vR 99, vI (nI i), vI (nI j), vI (bI s), vI (bI t), vI (nI (c + b)), vI (nI m), vI (nI k)] [vI (nI (c + b))] h3 (0, 0) Q) ∧ (t = 0 → e.2 = 16 → Ex g mX10_answersNow 49 [vR 99, vI (nI i), vI (nI j), vI (bI s), vI (bI t), vI (nI (c + b + 1)), vI (nI m), vI (nI (k + 1))] [] h3 (0, 0) Q) := fun e1 => by
              refine ⟨fun tn => ?_, fun t0 ne => no fun q => ne (by rw [q.2, t3 t0]), fun t0 ee => ?_⟩
              · by_cases e2 : e.2 = sg t
                · rw [if_pos ⟨e1, e2⟩] at n2
                  rw [t2 tn] at n2 ⊢
                  refine rX10_answersNow_97 ?_
                  simp only [bX10_answersNow_97, run, Nat.reduceAdd, lg, st1, st2, lkill, lset, fvv, sfv, kind3, cat1, retI, retA, List.length_cons, List.length_nil, true_and, and_true, or_true, true_or, qX10_answersNow, show nI e.2 = nI (sg t) ↔ True from ⟨fun _ => trivial, fun _ => by rw [e2]⟩, nI_1, not_true_eq_false, not_false_eq_true, false_implies, true_and, and_true, tti]
                  exact n2
                · have n0 := no fun q => e2 q.2
                  rw [t2 tn] at n0 ⊢
                  refine rX10_answersNow_97 ?_
                  simp only [bX10_answersNow_97, run, Nat.reduceAdd, lg, st1, st2, lkill, lset, fvv, sfv, kind3, cat1, retI, retA, List.length_cons, List.length_nil, true_and, and_true, or_true, true_or, qX10_answersNow, show nI e.2 = nI (sg t) ↔ False from ⟨fun q => e2 ((q2 _ gt).mp q), False.elim⟩, not_true_eq_false, not_false_eq_true, false_implies, true_and, and_true, tti]
                  exact n0
              · rw [if_pos ⟨e1, by rw [ee, t3 t0]⟩] at n2
                exact n2
            have tge : 0 ≤ bI t ↔ ¬ t = 0 := by rw [ge0, t1]
            have sge : 0 ≤ bI s ↔ ¬ s = 0 := by rw [ge0, s1]
            have q16 : nI e.2 = 16 ↔ e.2 = 16 := nI_eq (b := 16) (by omega) (by decide)
            have p16 : nI e.1 = 16 ↔ e.1 = 16 := nI_eq (b := 16) (by omega) (by decide)
            have tT : ¬ t = 0 → (0 ≤ bI t ↔ True) := fun q => ⟨fun _ => trivial, fun _ => tge.mpr q⟩
            have tF : t = 0 → (0 ≤ bI t ↔ False) := fun q => ⟨fun z => tge.mp z q, False.elim⟩
            have qT : e.2 = 16 → (nI e.2 = 16 ↔ True) := fun q => ⟨fun _ => trivial, fun _ => q16.mpr q⟩
            have qF : ¬ e.2 = 16 → (nI e.2 = 16 ↔ False) := fun q => ⟨fun z => q (q16.mp z), False.elim⟩
            by_cases s0 : s = 0
            · have sF : 0 ≤ bI s ↔ False := ⟨fun z => sge.mp z s0, False.elim⟩
              by_cases ee : e.1 = 16
              · have e1 : e.1 = sg s := by rw [ee, s3 s0]
                have pT : nI e.1 = 16 ↔ True := ⟨fun _ => trivial, fun _ => p16.mpr ee⟩
                obtain ⟨a1, a2, a3⟩ := f97 e1
                by_cases t0 : t = 0
                · by_cases e2 : e.2 = 16
                  · have z := a3 t0 e2
                    refine rX10_answersNow_49 ?_
                    simp only [bX10_answersNow_49, run, Nat.reduceAdd, lg, st1, st2, lkill, lset, fvv, sfv, kind3, cat1, retI, retA, List.length_cons, List.length_nil, true_and, and_true, or_true, true_or, qX10_answersNow, ms3.1, co3.1, nle, ms3.R22, ms3.K117, kk, c1, sF, pT, ms3.R23, ms3.K118, c2, tF t0, qT e2, nI_1, not_true_eq_false, not_false_eq_true, false_implies, true_and, and_true, tti]
                    exact ⟨vk, vk, z⟩
                  · have z := a2 t0 e2
                    refine rX10_answersNow_49 ?_
                    simp only [bX10_answersNow_49, run, Nat.reduceAdd, lg, st1, st2, lkill, lset, fvv, sfv, kind3, cat1, retI, retA, List.length_cons, List.length_nil, true_and, and_true, or_true, true_or, qX10_answersNow, ms3.1, co3.1, nle, ms3.R22, ms3.K117, kk, c1, sF, pT, ms3.R23, ms3.K118, c2, tF t0, qF e2, not_true_eq_false, not_false_eq_true, false_implies, true_and, and_true, tti]
                    exact ⟨vk, vk, z⟩
                · have z := a1 t0
                  refine rX10_answersNow_49 ?_
                  simp only [bX10_answersNow_49, run, Nat.reduceAdd, lg, st1, st2, lkill, lset, fvv, sfv, kind3, cat1, retI, retA, List.length_cons, List.length_nil, true_and, and_true, or_true, true_or, qX10_answersNow, ms3.1, co3.1, nle, ms3.R22, ms3.K117, kk, c1, sF, pT, ms3.R23, ms3.K118, c2, tT t0, not_true_eq_false, not_false_eq_true, false_implies, true_and, and_true, tti]
                  exact ⟨vk, vk, z⟩
              · have z := no fun q => ee (by rw [q.1, s3 s0])
                refine rX10_answersNow_49 ?_
                simp only [bX10_answersNow_49, run, Nat.reduceAdd, lg, st1, st2, lkill, lset, fvv, sfv, kind3, cat1, retI, retA, List.length_cons, List.length_nil, true_and, and_true, or_true, true_or, qX10_answersNow, ms3.1, co3.1, nle, ms3.R22, ms3.K117, kk, c1, sF, show nI e.1 = 16 ↔ False from ⟨fun q => ee (p16.mp q), False.elim⟩, not_true_eq_false, not_false_eq_true, false_implies, true_and, and_true, tti]
                exact ⟨vk, z⟩
            · have sE := s2 s0
              have sT : 0 ≤ bI s ↔ True := ⟨fun _ => trivial, fun _ => sge.mpr s0⟩
              by_cases e1 : e.1 = sg s
              · obtain ⟨a1, a2, a3⟩ := f97 e1
                have f76 : Ex g mX10_answersNow 76 [vR 99, vI (nI i), vI (nI j), vI (bI s), vI (bI t), vI (nI (c + b)), vI (nI m), vI (nI k)] [vI (nI e.1), vI (nI (c + b))] h3 (0, 0) Q := by
                  have b1 : nI e.1 = bI s ↔ True := ⟨fun _ => trivial, fun _ => by rw [sE, e1]⟩
                  by_cases t0 : t = 0
                  · by_cases e2 : e.2 = 16
                    · have z := a3 t0 e2
                      refine rX10_answersNow_76 ?_
                      simp only [bX10_answersNow_76, run, Nat.reduceAdd, lg, st1, st2, lkill, lset, fvv, sfv, kind3, cat1, retI, retA, List.length_cons, List.length_nil, true_and, and_true, or_true, true_or, qX10_answersNow, b1, ms3.1, kk, ms3.R23, ms3.K118, c2, tF t0, qT e2, nI_1, not_true_eq_false, not_false_eq_true, false_implies, true_and, and_true, tti]
                      exact ⟨vk, z⟩
                    · have z := a2 t0 e2
                      refine rX10_answersNow_76 ?_
                      simp only [bX10_answersNow_76, run, Nat.reduceAdd, lg, st1, st2, lkill, lset, fvv, sfv, kind3, cat1, retI, retA, List.length_cons, List.length_nil, true_and, and_true, or_true, true_or, qX10_answersNow, b1, ms3.1, kk, ms3.R23, ms3.K118, c2, tF t0, qF e2, not_true_eq_false, not_false_eq_true, false_implies, true_and, and_true, tti]
                      exact ⟨vk, z⟩
                  · have z := a1 t0
                    refine rX10_answersNow_76 ?_
                    simp only [bX10_answersNow_76, run, Nat.reduceAdd, lg, st1, st2, lkill, lset, fvv, sfv, kind3, cat1, retI, retA, List.length_cons, List.length_nil, true_and, and_true, or_true, true_or, qX10_answersNow, b1, ms3.1, kk, ms3.R23, ms3.K118, c2, tT t0, not_true_eq_false, not_false_eq_true, false_implies, true_and, and_true, tti]
                    exact ⟨vk, z⟩
                refine rX10_answersNow_49 ?_
                simp only [bX10_answersNow_49, run, Nat.reduceAdd, lg, st1, st2, lkill, lset, fvv, sfv, kind3, cat1, retI, retA, List.length_cons, List.length_nil, true_and, and_true, or_true, true_or, qX10_answersNow, ms3.1, co3.1, nle, ms3.R22, ms3.K117, kk, c1, sT, not_true_eq_false, not_false_eq_true, false_implies, true_and, and_true, tti]
                exact ⟨vk, f76⟩
              · have z := no fun q => e1 q.1
                have b1 : nI e.1 = bI s ↔ False := ⟨fun q => e1 ((q1 _ gs).mp (by rw [← sE]; exact q)), False.elim⟩
                refine rX10_answersNow_49 ?_
                simp only [bX10_answersNow_49, run, Nat.reduceAdd, lg, st1, st2, lkill, lset, fvv, sfv, kind3, cat1, retI, retA, List.length_cons, List.length_nil, true_and, and_true, or_true, true_or, qX10_answersNow, ms3.1, co3.1, nle, ms3.R22, ms3.K117, kk, c1, sT, not_true_eq_false, not_false_eq_true, false_implies, true_and, and_true, tti]
                refine ⟨vk, ?_⟩
                refine rX10_answersNow_76 ?_
                simp only [bX10_answersNow_76, run, Nat.reduceAdd, lg, st1, st2, lkill, lset, fvv, sfv, kind3, cat1, retI, retA, List.length_cons, List.length_nil, true_and, and_true, or_true, true_or, qX10_answersNow, b1, not_true_eq_false, not_false_eq_true, false_implies, true_and, and_true, tti]
                exact z
        refine rX10_answersNow_45 ?_
        simp only [bX10_answersNow_45, run, Nat.reduceAdd, lg, st1, st2, lkill, lset, fvv, sfv, kind3, cat1, retI, retA, List.length_cons, List.length_nil, true_and, and_true, or_true, true_or, qX10_answersNow]
        exact inner _ 0 (Nat.zero_add _)
      · have eK : kcl f (cel D f gv m i) (cel D f gv m j) = [] := if_neg ki
        rw [eK] at nx
        refine rX10_answersNow_21 ?_
        simp only [bX10_answersNow_21, run, Nat.reduceAdd, lg, st1, st2, lkill, lset, fvv, sfv, kind3, cat1, retI, retA, List.length_cons, List.length_nil, true_and, and_true, or_true, true_or, qX10_answersNow, if_neg ki, nI_1, not_true_eq_false, not_false_eq_true, false_implies, true_and, and_true, tti]
        exact nx _ h2 y2 e2
  refine rX10_answersNow_0 ?_
  simp only [bX10_answersNow_0, run, Nat.reduceAdd, lg, st1, st2, lkill, lset, fvv, sfv, kind3, cat1, retI, retA, List.length_cons, List.length_nil, true_and, and_true, or_true, true_or, qX10_answersNow]
  exact lp 12 0 rfl _ h Mq.rf rfl
