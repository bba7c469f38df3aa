theorem e_cost {g : Gp} {a0 a1 a2 : Int32} {h : AH} {Q : PQ} {f : Nat → Nat} {gv : Nat → List Nat} {op : Nat} {D : HD} (hf : FamR h f gv op D)
    (hq : ∀ m i j, m < 12 → i < D.1 → j < D.1 → a0 = nI m → a1 = nI i → a2 = nI j → ∀ h', Fc h h' → FamR h' f gv op D → Q (.inl (some (vI (hI (cwo f (cel D f gv m i).1 (cel D f gv m j).1))))) h')
    (hx : (inb a1 D.1 && inb a2 D.1) = false → ∀ n, zN h ≤ n → Q (.inr 1) (bump h n))
    (hx2 : (inb a1 D.1 && inb a2 D.1) = true → inb a0 12 = false → ∀ n, zN h ≤ n → Q (.inr 2) (bump h n)) : Ev g mX9_cost [vR 4, vI a0, vI a1, vI a2] h Q := by
  have hb := hf.b
  have hD1 := hb.ok.2.1
  refine nX9_cost ?_
  refine Ex.wf (fun w => ?_)
  have bad1 : (inb a1 D.1 && inb a2 D.1) = false → Ex g mX9_cost 20 [vR 4, vI a0, vI a1, vI a2] [] h (0, 0) Q := fun e => by
    refine rX9_cost_20 ?_
    simp only [bX9_cost_20, run, Nat.reduceAdd, lg, st1, st2, lkill, lset, fvv, sfv, kind3, cat1, retI, retA, List.length_cons, List.length_nil, true_and, and_true, or_true, true_or, qX9_cost]
    exact sX9_cost_21 (by decide) (e_requireThere (fun q => absurd rfl q) fun _ n hn => hx e n hn)
  refine rX9_cost_0 ?_
  simp only [bX9_cost_0, run, Nat.reduceAdd, lg, st1, st2, lkill, lset, fvv, sfv, kind3, cat1, retI, retA, List.length_cons, List.length_nil, true_and, and_true, or_true, true_or, qX9_cost]
  refine sX9_cost_2 hb.lgs.1 (e_isLanguage hb ?_)
  simp only [cont, Option.toList, List.cons_append, List.nil_append]
  cases e1 : inb a1 D.1 with
  | false =>
    refine rX9_cost_5 ?_
    simp only [bX9_cost_5, run, Nat.reduceAdd, lg, st1, st2, lkill, lset, fvv, sfv, kind3, cat1, retI, retA, List.length_cons, List.length_nil, true_and, and_true, or_true, true_or, qX9_cost, show bi false = 0 from rfl, not_true_eq_false, not_false_eq_true, false_implies, true_and, and_true, tti]
    exact bad1 (by rw [e1]; rfl)
  | true =>
    refine rX9_cost_5 ?_
    simp only [bX9_cost_5, run, Nat.reduceAdd, lg, st1, st2, lkill, lset, fvv, sfv, kind3, cat1, retI, retA, List.length_cons, List.length_nil, true_and, and_true, or_true, true_or, qX9_cost, show ¬ bi true = 0 by decide, not_true_eq_false, not_false_eq_true, false_implies, true_and, and_true, tti]
    refine sX9_cost_10 hb.lgs.1 (e_isLanguage hb ?_)
    simp only [cont, Option.toList, List.cons_append, List.nil_append]
    cases e2 : inb a2 D.1 with
    | false =>
      refine rX9_cost_13 ?_
      simp only [bX9_cost_13, run, Nat.reduceAdd, lg, st1, st2, lkill, lset, fvv, sfv, kind3, cat1, retI, retA, List.length_cons, List.length_nil, true_and, and_true, or_true, true_or, qX9_cost, show bi false = 0 from rfl, not_true_eq_false, not_false_eq_true, false_implies, true_and, and_true, tti]
      exact bad1 (by rw [e1, e2]; rfl)
    | true =>
      refine rX9_cost_13 ?_
      simp only [bX9_cost_13, run, Nat.reduceAdd, lg, st1, st2, lkill, lset, fvv, sfv, kind3, cat1, retI, retA, List.length_cons, List.length_nil, true_and, and_true, or_true, true_or, qX9_cost, show ¬ bi true = 0 by decide, not_true_eq_false, not_false_eq_true, false_implies, true_and, and_true, tti]
      refine sX9_cost_21 (by decide) (e_requireThere (fun _ => ?_) fun q => absurd q (by decide))
      simp only [cont, Option.toList, List.cons_append, List.nil_append]
      refine rX9_cost_24 ?_
      simp only [bX9_cost_24, run, Nat.reduceAdd, lg, st1, st2, lkill, lset, fvv, sfv, kind3, cat1, retI, retA, List.length_cons, List.length_nil, true_and, and_true, or_true, true_or, qX9_cost]
      refine sX9_cost_25 (e_isMeaning ?_)
      simp only [cont, Option.toList, List.cons_append, List.nil_append]
      refine sX9_cost_28 (by decide) (e_refuseUnless (fun q => ?_) fun q n hn => hx2 (by rw [e1, e2]; rfl) (bi_0.mp q) n hn)
      simp only [cont, Option.toList, List.cons_append, List.nil_append]
      obtain ⟨i, hi, rfl⟩ := inb_t (by omega) e1
      obtain ⟨j, hj, rfl⟩ := inb_t (by omega) e2
      obtain ⟨m, hm, rfl⟩ := inb_t (by decide) (ts_nf fun e => q (bi_0.mpr e))
      refine rX9_cost_31 ?_
      simp only [bX9_cost_31, run, Nat.reduceAdd, lg, st1, st2, lkill, lset, fvv, sfv, kind3, cat1, retI, retA, List.length_cons, List.length_nil, true_and, and_true, or_true, true_or, qX9_cost, hb.1.1.1, hb.1.1.2.2.2.2.1, not_true_eq_false, not_false_eq_true, false_implies, true_and, and_true, tti]
      refine sX9_cost_36 hb.2.2.1.2.1 (e_fr1 w hf hm fun h2 fc kn => ?_)
      simp only [cont, Option.toList, List.cons_append, List.nil_append]
      refine rX9_cost_39 ?_
      simp only [bX9_cost_39, run, Nat.reduceAdd, lg, st1, st2, lkill, lset, fvv, sfv, kind3, cat1, retI, retA, List.length_cons, List.length_nil, true_and, and_true, or_true, true_or, qX9_cost]
      refine sX9_cost_43 kn.1.b.lgs.1 (e_leastCost kn hm hi hj fun h3 y fr => ?_)
      simp only [cont, Option.toList, List.cons_append, List.nil_append]
      refine rX9_cost_46 ?_
      simp only [bX9_cost_46, run, Nat.reduceAdd, lg, st1, st2, lkill, lset, fvv, sfv, kind3, cat1, retI, retA, List.length_cons, List.length_nil, true_and, and_true, or_true, true_or, qX9_cost]
      exact hq m i j hm hi hj rfl rfl rfl h3 (fc.tr (y.2.2.fc fun a q => by omega)) fr
