theorem e_mixCosts {g : Gp} {s : Int64} {h : AH} {Q : PQ} {f : Nat → Nat} {gv : Nat → List Nat} {op : Nat} {D : HD} (kn : KnA h f gv op D)
    (hq : ∀ h', Ku h h' → KnA h' f gv op D → Q (.inl (some (vL (mcs D f gv s D.1)))) h') : Ev g mX9_mixCosts [vR 4, vL s] h Q := by
  have hD1 := kn.1.b.ok.2.1
  refine nX9_mixCosts ?_
  refine Ex.wf (fun w => ?_)
  obtain ⟨c1, c2, c3, c4, e, xs, c5, c6, c7⟩ := kn.1.b.lgs
  have lp : ∀ d i, i + d = D.1 → ∀ (y z : AV) (h2 : AH), Ku h h2 → KnA h2 f gv op D → Ex g mX9_mixCosts 17 [vR 4, vL s, vU, vL (mcs D f gv s i), vU, vI (nI D.1), vI (nI i), y, z] [] h2 (0, 0) Q := by
    intro d
    induction d with
    | zero =>
      intro i hi y z h2 ku kn2
      have e : i = D.1 := by omega
      subst e
      refine rX9_mixCosts_17 ?_
      simp only [bX9_mixCosts_17, run, Nat.reduceAdd, lg, st1, st2, lkill, lset, fvv, sfv, kind3, cat1, retI, retA, List.length_cons, List.length_nil, true_and, and_true, or_true, true_or, qX9_mixCosts, show nI D.1 ≤ nI D.1 ↔ True from ⟨fun _ => trivial, fun _ => nI_le (Nat.le_refl _) (by omega)⟩, not_true_eq_false, not_false_eq_true, false_implies, true_and, and_true, tti]
      refine rX9_mixCosts_81 ?_
      simp only [bX9_mixCosts_81, run, Nat.reduceAdd, lg, st1, st2, lkill, lset, fvv, sfv, kind3, cat1, retI, retA, List.length_cons, List.length_nil, true_and, and_true, or_true, true_or, qX9_mixCosts]
      exact hq h2 ku kn2
    | succ d ih =>
      intro i hi y z h2 ku kn2
      have nx := ih (i + 1) (by omega)
      rw [mcs] at nx
      generalize mcs D f gv s i = s0 at nx
      have mid : ∀ d k, k + d = D.1 - 1 - i → ∀ (z : AV) (h2 : AH), Ku h h2 → KnA h2 f gv op D → Ex g mX9_mixCosts 30 [vR 4, vL s, vU, vL (mcg D f gv i s0 k), vU, vI (nI D.1), vI (nI i), vI (nI (i + 1 + k)), z] [] h2 (0, 0) Q := by
        intro d
        induction d with
        | zero =>
          intro k hk z h2 ku kn2
          have e : k = D.1 - 1 - i := by omega
          subst e
          refine rX9_mixCosts_30 ?_
          simp only [bX9_mixCosts_30, run, Nat.reduceAdd, lg, st1, st2, lkill, lset, fvv, sfv, kind3, cat1, retI, retA, List.length_cons, List.length_nil, true_and, and_true, or_true, true_or, qX9_mixCosts, show nI D.1 ≤ nI (i + 1 + (D.1 - 1 - i)) ↔ True from ⟨fun _ => trivial, fun _ => nI_le (by omega) (by omega)⟩, not_true_eq_false, not_false_eq_true, false_implies, true_and, and_true, tti]
          refine rX9_mixCosts_75 ?_
          simp only [bX9_mixCosts_75, run, Nat.reduceAdd, lg, st1, st2, lkill, lset, fvv, sfv, kind3, cat1, retI, retA, List.length_cons, List.length_nil, true_and, and_true, or_true, true_or, qX9_mixCosts, nI_1]
          exact nx _ _ h2 ku kn2
        | succ d ih2 =>
          intro k hk z h2 ku kn2
          have n2 := ih2 (k + 1) (by omega)
          rw [mcg] at n2
          generalize mcg D f gv i s0 k = s1 at n2
          have hk1 : i + 1 + k < D.1 := by omega
          have inner : ∀ d m, m + d = 12 → ∀ (h2 : AH), Ku h h2 → KnA h2 f gv op D → Ex g mX9_mixCosts 40 [vR 4, vL s, vU, vL (mcm (cwm D f gv i (i + 1 + k)) s1 m), vU, vI (nI D.1), vI (nI i), vI (nI (i + 1 + k)), vI (nI m)] [] h2 (0, 0) Q := by
            intro d
            induction d with
            | zero =>
              intro m hm h2 ku kn2
              have e : m = 12 := by omega
              subst e
              refine rX9_mixCosts_40 ?_
              simp only [bX9_mixCosts_40, run, Nat.reduceAdd, lg, st1, st2, lkill, lset, fvv, sfv, kind3, cat1, retI, retA, List.length_cons, List.length_nil, true_and, and_true, or_true, true_or, qX9_mixCosts, show ((12 : Int32) ≤ nI 12) = True by decide, not_true_eq_false, not_false_eq_true, false_implies, true_and, and_true, tti]
              refine rX9_mixCosts_69 ?_
              simp only [bX9_mixCosts_69, run, Nat.reduceAdd, lg, st1, st2, lkill, lset, fvv, sfv, kind3, cat1, retI, retA, List.length_cons, List.length_nil, true_and, and_true, or_true, true_or, qX9_mixCosts, nI_1]
              exact n2 _ h2 ku kn2
            | succ d ih3 =>
              intro m hm h2 ku kn2
              refine Ex.wf (fun w2 => ?_)
              have n3 := ih3 (m + 1) (by omega)
              rw [mcm] at n3
              have hm12 : m < 12 := by omega
              refine rX9_mixCosts_40 ?_
              simp only [bX9_mixCosts_40, run, Nat.reduceAdd, lg, st1, st2, lkill, lset, fvv, sfv, kind3, cat1, retI, retA, List.length_cons, List.length_nil, true_and, and_true, or_true, true_or, qX9_mixCosts, show ((12 : Int32) ≤ nI m) ↔ False from ⟨nI_ge (b := 12) (by omega) (by omega), False.elim⟩, not_true_eq_false, not_false_eq_true, false_implies, true_and, and_true, tti]
              refine sX9_mixCosts_55 kn2.1.b.lgs.1 (e_leastCost (kn2.at1 hm12) hm12 (by omega) hk1 fun h3 y3 fr3 => ?_)
              simp only [cont, Option.toList, List.cons_append, List.nil_append]
              refine rX9_mixCosts_58 ?_
              simp only [bX9_mixCosts_58, run, Nat.reduceAdd, lg, st1, st2, lkill, lset, fvv, sfv, kind3, cat1, retI, retA, List.length_cons, List.length_nil, true_and, and_true, or_true, true_or, qX9_mixCosts]
              refine sX9_mixCosts_59 (e_mixed ?_)
              simp only [cont, Option.toList, List.cons_append, List.nil_append]
              refine rX9_mixCosts_62 ?_
              simp only [bX9_mixCosts_62, run, Nat.reduceAdd, lg, st1, st2, lkill, lset, fvv, sfv, kind3, cat1, retI, retA, List.length_cons, List.length_nil, true_and, and_true, or_true, true_or, qX9_mixCosts, nI_1]
              exact n3 h3 (ku.tr (y3.u hm12)) ((y3.u hm12).knA w2 kn2 fr3)
          refine rX9_mixCosts_30 ?_
          simp only [bX9_mixCosts_30, run, Nat.reduceAdd, lg, st1, st2, lkill, lset, fvv, sfv, kind3, cat1, retI, retA, List.length_cons, List.length_nil, true_and, and_true, or_true, true_or, qX9_mixCosts, show nI D.1 ≤ nI (i + 1 + k) ↔ False from ⟨nI_ge (by omega) (by omega), False.elim⟩, not_true_eq_false, not_false_eq_true, false_implies, true_and, and_true, tti]
          exact inner 12 0 rfl h2 ku kn2
      refine rX9_mixCosts_17 ?_
      simp only [bX9_mixCosts_17, run, Nat.reduceAdd, lg, st1, st2, lkill, lset, fvv, sfv, kind3, cat1, retI, retA, List.length_cons, List.length_nil, true_and, and_true, or_true, true_or, qX9_mixCosts, show nI D.1 ≤ nI i ↔ False from ⟨nI_ge (by omega) (by omega), False.elim⟩, nI_1, not_true_eq_false, not_false_eq_true, false_implies, true_and, and_true, tti]
      exact mid (D.1 - 1 - i) 0 (Nat.zero_add _) _ h2 ku kn2
  refine rX9_mixCosts_0 ?_
  simp only [bX9_mixCosts_0, run, Nat.reduceAdd, lg, st1, st2, lkill, lset, fvv, sfv, kind3, cat1, retI, retA, List.length_cons, List.length_nil, true_and, and_true, or_true, true_or, qX9_mixCosts, c1, c2, c3, c4, not_true_eq_false, not_false_eq_true, false_implies, true_and, and_true, tti]
  refine sX9_mixCosts_9 c5.1 (l_size c5 ?_)
  simp only [cont, Option.toList, List.cons_append, List.nil_append]
  rw [c6]
  refine rX9_mixCosts_12 ?_
  simp only [bX9_mixCosts_12, run, Nat.reduceAdd, lg, st1, st2, lkill, lset, fvv, sfv, kind3, cat1, retI, retA, List.length_cons, List.length_nil, true_and, and_true, or_true, true_or, qX9_mixCosts]
  exact lp D.1 0 (Nat.zero_add _) _ _ h Ku.rf kn
theorem e_digest {g : Gp} {h : AH} {Q : PQ} {f : Nat → Nat} {gv : Nat → List Nat} {op : Nat} {D : HD} (hf : FamR h f gv op D)
    (hq : ∀ h', Fc h h' → FamR h' f gv op D → Q (.inl (some (vL (dgs D f gv)))) h') : Ev g mX9_digest [vR 4] h Q := by
  have hb := hf.b
  have hD := hb.ok
  have hD1 := hD.2.1
  refine nX9_digest ?_
  refine Ex.wf (fun w => ?_)
  refine rX9_digest_0 ?_
  simp only [bX9_digest_0, run, Nat.reduceAdd, lg, st1, st2, lkill, lset, fvv, sfv, kind3, cat1, retI, retA, List.length_cons, List.length_nil, true_and, and_true, or_true, true_or, qX9_digest, hb.1.1.1, hb.1.1.2.2.2.2.1, not_true_eq_false, not_false_eq_true, false_implies, true_and, and_true, tti]
  refine sX9_digest_4 hb.2.2.1.2.1 (e_frA w hf fun h2 fc kn => ?_)
  simp only [cont, Option.toList, List.cons_append, List.nil_append]
  refine Ex.wf (fun w2 => ?_)
  have hb2 := kn.1.b
  refine rX9_digest_7 ?_
  simp only [bX9_digest_7, run, Nat.reduceAdd, lg, st1, st2, lkill, lset, fvv, sfv, kind3, cat1, retI, retA, List.length_cons, List.length_nil, true_and, and_true, or_true, true_or, qX9_digest, hb2.1.1.1, hb2.1.1.2.2.2.2.2.1, not_true_eq_false, not_false_eq_true, false_implies, true_and, and_true, tti]
  refine sX9_digest_11 hb2.2.2.2.1.2.1 (e_frU w2 kn fun h3 fc3 kn3 ku3 => ?_)
  simp only [cont, Option.toList, List.cons_append, List.nil_append]
  refine Ex.wf (fun w3 => ?_)
  have hb3 := kn3.1.b
  obtain ⟨c1, c2, c3, c4, e, xs, c5, c6, c7⟩ := hb3.lgs
  obtain ⟨-, -, -, l4, e2, zs, l5, l6, l7⟩ := hb3.lns
  refine rX9_digest_14 ?_
  simp only [bX9_digest_14, run, Nat.reduceAdd, lg, st1, st2, lkill, lset, fvv, sfv, kind3, cat1, retI, retA, List.length_cons, List.length_nil, true_and, and_true, or_true, true_or, qX9_digest, c1, c2, c3, c4, not_true_eq_false, not_false_eq_true, false_implies, true_and, and_true, tti]
  refine sX9_digest_24 c5.1 (l_size c5 ?_)
  simp only [cont, Option.toList, List.cons_append, List.nil_append]
  rw [c6]
  refine rX9_digest_27 ?_
  simp only [bX9_digest_27, run, Nat.reduceAdd, lg, st1, st2, lkill, lset, fvv, sfv, kind3, cat1, retI, retA, List.length_cons, List.length_nil, true_and, and_true, or_true, true_or, qX9_digest]
  refine sX9_digest_28 (e_mixed ?_)
  simp only [cont, Option.toList, List.cons_append, List.nil_append]
  refine rX9_digest_31 ?_
  simp only [bX9_digest_31, run, Nat.reduceAdd, lg, st1, st2, lkill, lset, fvv, sfv, kind3, cat1, retI, retA, List.length_cons, List.length_nil, true_and, and_true, or_true, true_or, qX9_digest, c1, c2, c3, l4, not_true_eq_false, not_false_eq_true, false_implies, true_and, and_true, tti]
  refine sX9_digest_38 l5.1 (l_size l5 ?_)
  simp only [cont, Option.toList, List.cons_append, List.nil_append]
  rw [l6]
  refine rX9_digest_41 ?_
  simp only [bX9_digest_41, run, Nat.reduceAdd, lg, st1, st2, lkill, lset, fvv, sfv, kind3, cat1, retI, retA, List.length_cons, List.length_nil, true_and, and_true, or_true, true_or, qX9_digest]
  refine sX9_digest_42 (e_mixed ?_)
  simp only [cont, Option.toList, List.cons_append, List.nil_append]
  unfold dgs at hq
  generalize mx (mx 2677 (nI D.1).toInt64) (nI D.2.2.2.length).toInt64 = s at hq
  have lp : ∀ d l, l + d = D.1 → ∀ (z : AV) (h4 : AH), Ku h3 h4 → KnA h4 f gv op D → Ex g mX9_digest 48 [vR 4, vL (mxLs D f gv s l), vU, vI (nI l), z] [] h4 (0, 0) Q := by
    intro d
    induction d with
    | zero =>
      intro l hl z h4 ku kn4
      have e : l = D.1 := by omega
      subst e
      obtain ⟨c1, c2, c3, c4, e, xs, c5, c6, c7⟩ := kn4.1.b.lgs
      refine rX9_digest_48 ?_
      simp only [bX9_digest_48, run, Nat.reduceAdd, lg, st1, st2, lkill, lset, fvv, sfv, kind3, cat1, retI, retA, List.length_cons, List.length_nil, true_and, and_true, or_true, true_or, qX9_digest, c1, c2, c3, c4, not_true_eq_false, not_false_eq_true, false_implies, true_and, and_true, tti]
      refine sX9_digest_56 c5.1 (l_size c5 ?_)
      simp only [cont, Option.toList, List.cons_append, List.nil_append]
      rw [c6]
      refine rX9_digest_59 ?_
      simp only [bX9_digest_59, run, Nat.reduceAdd, lg, st1, st2, lkill, lset, fvv, sfv, kind3, cat1, retI, retA, List.length_cons, List.length_nil, true_and, and_true, or_true, true_or, qX9_digest, show nI D.1 ≤ nI D.1 ↔ True from ⟨fun _ => trivial, fun _ => nI_le (Nat.le_refl _) (by omega)⟩, not_true_eq_false, not_false_eq_true, false_implies, true_and, and_true, tti]
      refine rX9_digest_162 ?_
      simp only [bX9_digest_162, run, Nat.reduceAdd, lg, st1, st2, lkill, lset, fvv, sfv, kind3, cat1, retI, retA, List.length_cons, List.length_nil, true_and, and_true, or_true, true_or, qX9_digest]
      refine sX9_digest_164 c1 (e_mixCosts kn4 fun h5 y5 kn5 => ?_)
      simp only [cont, Option.toList, List.cons_append, List.nil_append]
      refine rX9_digest_167 ?_
      simp only [bX9_digest_167, run, Nat.reduceAdd, lg, st1, st2, lkill, lset, fvv, sfv, kind3, cat1, retI, retA, List.length_cons, List.length_nil, true_and, and_true, or_true, true_or, qX9_digest]
      exact hq h5 (fc.tr (fc3.tr (ku.fc.tr y5.fc))) kn5.1
    | succ d ih =>
      intro l hl z h4 ku kn4
      refine Ex.wf (fun w4 => ?_)
      have hl1 : l < D.1 := by omega
      have nx := ih (l + 1) (by omega)
      rw [mxLs] at nx
      generalize mxLs D f gv s l = t at nx
      unfold mxL at nx
      have hb4 := kn4.1.b
      obtain ⟨c1, c2, c3, c4, e, xs, c5, c6, c7⟩ := hb4.lgs
      refine rX9_digest_48 ?_
      simp only [bX9_digest_48, run, Nat.reduceAdd, lg, st1, st2, lkill, lset, fvv, sfv, kind3, cat1, retI, retA, List.length_cons, List.length_nil, true_and, and_true, or_true, true_or, qX9_digest, c1, c2, c3, c4, not_true_eq_false, not_false_eq_true, false_implies, true_and, and_true, tti]
      refine sX9_digest_56 c5.1 (l_size c5 ?_)
      simp only [cont, Option.toList, List.cons_append, List.nil_append]
      rw [c6]
      refine rX9_digest_59 ?_
      simp only [bX9_digest_59, run, Nat.reduceAdd, lg, st1, st2, lkill, lset, fvv, sfv, kind3, cat1, retI, retA, List.length_cons, List.length_nil, true_and, and_true, or_true, true_or, qX9_digest, show nI D.1 ≤ nI l ↔ False from ⟨nI_ge (by omega) (by omega), False.elim⟩, not_true_eq_false, not_false_eq_true, false_implies, true_and, and_true, tti]
      refine sX9_digest_65 c1 (e_lawsOf hb4 hl1 fun y2 a e ys _ _ _ d3 d4 _ => ?_)
      simp only [cont, Option.toList, List.cons_append, List.nil_append]
      refine sX9_digest_68 d3.1 (l_size d3 ?_)
      simp only [cont, Option.toList, List.cons_append, List.nil_append]
      rw [d4]
      refine rX9_digest_71 ?_
      simp only [bX9_digest_71, run, Nat.reduceAdd, lg, st1, st2, lkill, lset, fvv, sfv, kind3, cat1, retI, retA, List.length_cons, List.length_nil, true_and, and_true, or_true, true_or, qX9_digest]
      refine sX9_digest_72 (e_mixed ?_)
      simp only [cont, Option.toList, List.cons_append, List.nil_append]
      refine rX9_digest_75 ?_
      simp only [bX9_digest_75, run, Nat.reduceAdd, lg, st1, st2, lkill, lset, fvv, sfv, kind3, cat1, retI, retA, List.length_cons, List.length_nil, true_and, and_true, or_true, true_or, qX9_digest]
      refine sX9_digest_79 c1 (e_countWords kn4 hl1 ?_)
      simp only [cont, Option.toList, List.cons_append, List.nil_append]
      refine rX9_digest_82 ?_
      simp only [bX9_digest_82, run, Nat.reduceAdd, lg, st1, st2, lkill, lset, fvv, sfv, kind3, cat1, retI, retA, List.length_cons, List.length_nil, true_and, and_true, or_true, true_or, qX9_digest]
      refine sX9_digest_83 (e_mixed ?_)
      simp only [cont, Option.toList, List.cons_append, List.nil_append]
      refine rX9_digest_86 ?_
      simp only [bX9_digest_86, run, Nat.reduceAdd, lg, st1, st2, lkill, lset, fvv, sfv, kind3, cat1, retI, retA, List.length_cons, List.length_nil, true_and, and_true, or_true, true_or, qX9_digest]
      refine sX9_digest_90 c1 (e_countAlike kn4 hl1 ?_)
      simp only [cont, Option.toList, List.cons_append, List.nil_append]
      refine rX9_digest_93 ?_
      simp only [bX9_digest_93, run, Nat.reduceAdd, lg, st1, st2, lkill, lset, fvv, sfv, kind3, cat1, retI, retA, List.length_cons, List.length_nil, true_and, and_true, or_true, true_or, qX9_digest]
      refine sX9_digest_94 (e_mixed ?_)
      simp only [cont, Option.toList, List.cons_append, List.nil_append]
      refine rX9_digest_97 ?_
      simp only [bX9_digest_97, run, Nat.reduceAdd, lg, st1, st2, lkill, lset, fvv, sfv, kind3, cat1, retI, retA, List.length_cons, List.length_nil, true_and, and_true, or_true, true_or, qX9_digest]
      refine sX9_digest_101 c1 (e_collectSounds kn4 hl1 ?_)
      simp only [cont, Option.toList, List.cons_append, List.nil_append]
      refine rX9_digest_104 ?_
      simp only [bX9_digest_104, run, Nat.reduceAdd, lg, st1, st2, lkill, lset, fvv, sfv, kind3, cat1, retI, retA, List.length_cons, List.length_nil, true_and, and_true, or_true, true_or, qX9_digest]
      refine sX9_digest_105 (e_mixed ?_)
      simp only [cont, Option.toList, List.cons_append, List.nil_append]
      refine rX9_digest_108 ?_
      simp only [bX9_digest_108, run, Nat.reduceAdd, lg, st1, st2, lkill, lset, fvv, sfv, kind3, cat1, retI, retA, List.length_cons, List.length_nil, true_and, and_true, or_true, true_or, qX9_digest]
      refine sX9_digest_112 c1 (e_nearestTo kn4 hl1 fun h5 y5 kn5 => ?_)
      simp only [cont, Option.toList, List.cons_append, List.nil_append]
      refine Ex.wf (fun w5 => ?_)
      refine rX9_digest_115 ?_
      simp only [bX9_digest_115, run, Nat.reduceAdd, lg, st1, st2, lkill, lset, fvv, sfv, kind3, cat1, retI, retA, List.length_cons, List.length_nil, true_and, and_true, or_true, true_or, qX9_digest]
      refine sX9_digest_116 (e_mixed ?_)
      simp only [cont, Option.toList, List.cons_append, List.nil_append]
      refine rX9_digest_119 ?_
      simp only [bX9_digest_119, run, Nat.reduceAdd, lg, st1, st2, lkill, lset, fvv, sfv, kind3, cat1, retI, retA, List.length_cons, List.length_nil, true_and, and_true, or_true, true_or, qX9_digest]
      refine sX9_digest_123 kn5.1.b.lgs.1 (e_countRecalledWell kn5 hl1 fun h6 y6 => ?_)
      simp only [cont, Option.toList, List.cons_append, List.nil_append]
      have kn6 := y6.knA w5 kn5
      refine rX9_digest_126 ?_
      simp only [bX9_digest_126, run, Nat.reduceAdd, lg, st1, st2, lkill, lset, fvv, sfv, kind3, cat1, retI, retA, List.length_cons, List.length_nil, true_and, and_true, or_true, true_or, qX9_digest]
      refine sX9_digest_127 (e_mixed ?_)
      simp only [cont, Option.toList, List.cons_append, List.nil_append]
      have ku6 := (ku.tr y5).tr y6.u
      generalize mx (mx (mx (mx (mx (mx t (nI (D.2.2.1 l).length).toInt64) (nI (wlt D f gv l 12)).toInt64) (nI (alk (fun m => (cel D f gv m l).1) 12)).toInt64) (nI (sos D f gv l 12)).toInt64) (bI (nst (dsX D f gv l) l D.1).1).toInt64) (nI (rwl D f gv l 12)).toInt64 = t2 at nx
      have inner : ∀ d m, m + d = 12 → ∀ (h4 : AH), Ku h3 h4 → KnA h4 f gv op D → Ex g mX9_digest 134 [vR 4, vL (mxM D f gv l t2 m), vU, vI (nI l), vI (nI m)] [] h4 (0, 0) Q := by
        intro d
        induction d with
        | zero =>
          intro m hm h4 ku kn4
          have e : m = 12 := by omega
          subst e
          refine rX9_digest_134 ?_
          simp only [bX9_digest_134, run, Nat.reduceAdd, lg, st1, st2, lkill, lset, fvv, sfv, kind3, cat1, retI, retA, List.length_cons, List.length_nil, true_and, and_true, or_true, true_or, qX9_digest, show ((12 : Int32) ≤ nI 12) = True by decide, not_true_eq_false, not_false_eq_true, false_implies, true_and, and_true, tti]
          refine rX9_digest_156 ?_
          simp only [bX9_digest_156, run, Nat.reduceAdd, lg, st1, st2, lkill, lset, fvv, sfv, kind3, cat1, retI, retA, List.length_cons, List.length_nil, true_and, and_true, or_true, true_or, qX9_digest, nI_1]
          exact nx _ h4 ku kn4
        | succ d ih3 =>
          intro m hm h4 ku kn4
          refine Ex.wf (fun w4 => ?_)
          have n3 := ih3 (m + 1) (by omega)
          rw [mxM] at n3
          have hm12 : m < 12 := by omega
          refine rX9_digest_134 ?_
          simp only [bX9_digest_134, run, Nat.reduceAdd, lg, st1, st2, lkill, lset, fvv, sfv, kind3, cat1, retI, retA, List.length_cons, List.length_nil, true_and, and_true, or_true, true_or, qX9_digest, show ((12 : Int32) ≤ nI m) ↔ False from ⟨nI_ge (b := 12) (by omega) (by omega), False.elim⟩, not_true_eq_false, not_false_eq_true, false_implies, true_and, and_true, tti]
          refine sX9_digest_146 kn4.1.b.lgs.1 (e_mixWord kn4 (ku.knU w3 kn3.1 ku3) hl1 hm12 fun h7 y7 => ?_)
          simp only [cont, Option.toList, List.cons_append, List.nil_append]
          refine rX9_digest_149 ?_
          simp only [bX9_digest_149, run, Nat.reduceAdd, lg, st1, st2, lkill, lset, fvv, sfv, kind3, cat1, retI, retA, List.length_cons, List.length_nil, true_and, and_true, or_true, true_or, qX9_digest, nI_1]
          exact n3 h7 (ku.tr y7.u) (y7.knA w4 kn4)
      refine rX9_digest_130 ?_
      simp only [bX9_digest_130, run, Nat.reduceAdd, lg, st1, st2, lkill, lset, fvv, sfv, kind3, cat1, retI, retA, List.length_cons, List.length_nil, true_and, and_true, or_true, true_or, qX9_digest]
      exact inner 12 0 rfl h6 ku6 kn6
  refine rX9_digest_45 ?_
  simp only [bX9_digest_45, run, Nat.reduceAdd, lg, st1, st2, lkill, lset, fvv, sfv, kind3, cat1, retI, retA, List.length_cons, List.length_nil, true_and, and_true, or_true, true_or, qX9_digest]
  exact lp D.1 0 (Nat.zero_add _) _ h3 Ku.rf kn3
