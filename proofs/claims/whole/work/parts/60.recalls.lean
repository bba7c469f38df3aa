theorem e_recalled {g : Gp} {x y : Int32} {h : AH} {Q : PQ} {f : Nat → Nat} {gv : Nat → List Nat} {op : Nat} {D : HD} (hf : FamR h f gv op D)
    (hq : ∀ l m, l < D.1 → m < 12 → x = nI l → y = nI m → ∀ h', Fc h h' → FamR h' f gv op D → Q (.inl (some (vI (nI (rcl D f gv m l).length)))) h')
    (hx : (inb x D.1 && inb y 12) = false → ∀ n, zN h ≤ n → Q (.inr 1) (bump h n)) : Ev g mX9_recalled [vR 4, vI x, vI y] h Q := by
  have hb := hf.b
  have hD1 := hb.ok.2.1
  refine nX9_recalled ?_
  refine Ex.wf (fun w => ?_)
  have bad : (inb x D.1 && inb y 12) = false → Ex g mX9_recalled 19 [vR 4, vI x, vI y] [] h (0, 0) Q := fun e => by
    refine rX9_recalled_19 ?_
    simp only [bX9_recalled_19, run, Nat.reduceAdd, lg, st1, st2, lkill, lset, fvv, sfv, kind3, cat1, retI, retA, List.length_cons, List.length_nil, true_and, and_true, or_true, true_or, qX9_recalled]
    exact sX9_recalled_20 (by decide) (e_requireThere (fun q => absurd rfl q) fun _ n hn => hx e n hn)
  refine rX9_recalled_0 ?_
  simp only [bX9_recalled_0, run, Nat.reduceAdd, lg, st1, st2, lkill, lset, fvv, sfv, kind3, cat1, retI, retA, List.length_cons, List.length_nil, true_and, and_true, or_true, true_or, qX9_recalled]
  refine sX9_recalled_2 hb.lgs.1 (e_isLanguage hb ?_)
  simp only [cont, Option.toList, List.cons_append, List.nil_append]
  cases h1 : inb x D.1 with
  | false =>
    refine rX9_recalled_5 ?_
    simp only [bX9_recalled_5, run, Nat.reduceAdd, lg, st1, st2, lkill, lset, fvv, sfv, kind3, cat1, retI, retA, List.length_cons, List.length_nil, true_and, and_true, or_true, true_or, qX9_recalled, show bi false = 0 from rfl, not_true_eq_false, not_false_eq_true, false_implies, true_and, and_true, tti]
    exact bad (by rw [h1]; rfl)
  | true =>
    refine rX9_recalled_5 ?_
    simp only [bX9_recalled_5, run, Nat.reduceAdd, lg, st1, st2, lkill, lset, fvv, sfv, kind3, cat1, retI, retA, List.length_cons, List.length_nil, true_and, and_true, or_true, true_or, qX9_recalled, show ¬ bi true = 0 by decide, not_true_eq_false, not_false_eq_true, false_implies, true_and, and_true, tti]
    refine sX9_recalled_9 (e_isMeaning ?_)
    simp only [cont, Option.toList, List.cons_append, List.nil_append]
    cases h2 : inb y 12 with
    | false =>
      refine rX9_recalled_12 ?_
      simp only [bX9_recalled_12, run, Nat.reduceAdd, lg, st1, st2, lkill, lset, fvv, sfv, kind3, cat1, retI, retA, List.length_cons, List.length_nil, true_and, and_true, or_true, true_or, qX9_recalled, show bi false = 0 from rfl, not_true_eq_false, not_false_eq_true, false_implies, true_and, and_true, tti]
      exact bad (by rw [h1, h2]; rfl)
    | true =>
      refine rX9_recalled_12 ?_
      simp only [bX9_recalled_12, run, Nat.reduceAdd, lg, st1, st2, lkill, lset, fvv, sfv, kind3, cat1, retI, retA, List.length_cons, List.length_nil, true_and, and_true, or_true, true_or, qX9_recalled, show ¬ bi true = 0 by decide, not_true_eq_false, not_false_eq_true, false_implies, true_and, and_true, tti]
      refine sX9_recalled_20 (by decide) (e_requireThere (fun _ => ?_) fun q => absurd q (by decide))
      simp only [cont, Option.toList, List.cons_append, List.nil_append]
      obtain ⟨l, hl, rfl⟩ := inb_t (by omega) h1
      obtain ⟨m, hm, rfl⟩ := inb_t (by decide) h2
      refine rX9_recalled_23 ?_
      simp only [bX9_recalled_23, run, Nat.reduceAdd, lg, st1, st2, lkill, lset, fvv, sfv, kind3, cat1, retI, retA, List.length_cons, List.length_nil, true_and, and_true, or_true, true_or, qX9_recalled, hb.1.1.1, hb.1.1.2.2.2.2.1, not_true_eq_false, not_false_eq_true, false_implies, true_and, and_true, tti]
      refine sX9_recalled_28 hb.2.2.1.2.1 (e_fr1 w hf hm fun h2 fc kn => ?_)
      simp only [cont, Option.toList, List.cons_append, List.nil_append]
      refine Ex.wf (fun w2 => ?_)
      have ok := rcl_ok (l := l) fun d hd => (kn.ok hm (l := d) hd).1
      refine rX9_recalled_31 ?_
      simp only [bX9_recalled_31, run, Nat.reduceAdd, lg, st1, st2, lkill, lset, fvv, sfv, kind3, cat1, retI, retA, List.length_cons, List.length_nil, true_and, and_true, or_true, true_or, qX9_recalled]
      refine sX9_recalled_34 kn.1.b.lgs.1 (e_recall kn hm hl fun h3 kv => ?_)
      simp only [cont, Option.toList, List.cons_append, List.nil_append]
      refine sX9_recalled_37 (e_size ok ?_)
      simp only [cont, Option.toList, List.cons_append, List.nil_append]
      refine rX9_recalled_40 ?_
      simp only [bX9_recalled_40, run, Nat.reduceAdd, lg, st1, st2, lkill, lset, fvv, sfv, kind3, cat1, retI, retA, List.length_cons, List.length_nil, true_and, and_true, or_true, true_or, qX9_recalled]
      exact hq l m hl hm rfl rfl h3 (fc.tr kv.fc) (kv.fam w2 kn.1)
theorem e_recalledAt {g : Gp} {x y z : Int32} {h : AH} {Q : PQ} {f : Nat → Nat} {gv : Nat → List Nat} {op : Nat} {D : HD} (hf : FamR h f gv op D)
    (hq : ∀ l m, l < D.1 → m < 12 → x = nI l → y = nI m → ∀ h', Fc h h' → FamR h' f gv op D → (∀ p, p < (rcl D f gv m l).length → z = nI p → Q (.inl (some (vI (nI ((rcl D f gv m l).getD p 0))))) h') ∧ (inb z (rcl D f gv m l).length = false → ∀ n, zN h' ≤ n → Q (.inr 1) (bump h' n)))
    (hx : (inb x D.1 && inb y 12) = false → ∀ n, zN h ≤ n → Q (.inr 1) (bump h n)) : Ev g mX9_recalledAt [vR 4, vI x, vI y, vI z] h Q := by
  have hb := hf.b
  have hD1 := hb.ok.2.1
  refine nX9_recalledAt ?_
  refine Ex.wf (fun w => ?_)
  have bad : (inb x D.1 && inb y 12) = false → Ex g mX9_recalledAt 19 [vR 4, vI x, vI y, vI z] [] h (0, 0) Q := fun e => by
    refine rX9_recalledAt_19 ?_
    simp only [bX9_recalledAt_19, run, Nat.reduceAdd, lg, st1, st2, lkill, lset, fvv, sfv, kind3, cat1, retI, retA, List.length_cons, List.length_nil, true_and, and_true, or_true, true_or, qX9_recalledAt]
    exact sX9_recalledAt_20 (by decide) (e_requireThere (fun q => absurd rfl q) fun _ n hn => hx e n hn)
  refine rX9_recalledAt_0 ?_
  simp only [bX9_recalledAt_0, run, Nat.reduceAdd, lg, st1, st2, lkill, lset, fvv, sfv, kind3, cat1, retI, retA, List.length_cons, List.length_nil, true_and, and_true, or_true, true_or, qX9_recalledAt]
  refine sX9_recalledAt_2 hb.lgs.1 (e_isLanguage hb ?_)
  simp only [cont, Option.toList, List.cons_append, List.nil_append]
  cases h1 : inb x D.1 with
  | false =>
    refine rX9_recalledAt_5 ?_
    simp only [bX9_recalledAt_5, run, Nat.reduceAdd, lg, st1, st2, lkill, lset, fvv, sfv, kind3, cat1, retI, retA, List.length_cons, List.length_nil, true_and, and_true, or_true, true_or, qX9_recalledAt, show bi false = 0 from rfl, not_true_eq_false, not_false_eq_true, false_implies, true_and, and_true, tti]
    exact bad (by rw [h1]; rfl)
  | true =>
    refine rX9_recalledAt_5 ?_
    simp only [bX9_recalledAt_5, run, Nat.reduceAdd, lg, st1, st2, lkill, lset, fvv, sfv, kind3, cat1, retI, retA, List.length_cons, List.length_nil, true_and, and_true, or_true, true_or, qX9_recalledAt, show ¬ bi true = 0 by decide, not_true_eq_false, not_false_eq_true, false_implies, true_and, and_true, tti]
    refine sX9_recalledAt_9 (e_isMeaning ?_)
    simp only [cont, Option.toList, List.cons_append, List.nil_append]
    cases h2 : inb y 12 with
    | false =>
      refine rX9_recalledAt_12 ?_
      simp only [bX9_recalledAt_12, run, Nat.reduceAdd, lg, st1, st2, lkill, lset, fvv, sfv, kind3, cat1, retI, retA, List.length_cons, List.length_nil, true_and, and_true, or_true, true_or, qX9_recalledAt, show bi false = 0 from rfl, not_true_eq_false, not_false_eq_true, false_implies, true_and, and_true, tti]
      exact bad (by rw [h1, h2]; rfl)
    | true =>
      refine rX9_recalledAt_12 ?_
      simp only [bX9_recalledAt_12, run, Nat.reduceAdd, lg, st1, st2, lkill, lset, fvv, sfv, kind3, cat1, retI, retA, List.length_cons, List.length_nil, true_and, and_true, or_true, true_or, qX9_recalledAt, show ¬ bi true = 0 by decide, not_true_eq_false, not_false_eq_true, false_implies, true_and, and_true, tti]
      refine sX9_recalledAt_20 (by decide) (e_requireThere (fun _ => ?_) fun q => absurd q (by decide))
      simp only [cont, Option.toList, List.cons_append, List.nil_append]
      obtain ⟨l, hl, rfl⟩ := inb_t (by omega) h1
      obtain ⟨m, hm, rfl⟩ := inb_t (by decide) h2
      refine rX9_recalledAt_23 ?_
      simp only [bX9_recalledAt_23, run, Nat.reduceAdd, lg, st1, st2, lkill, lset, fvv, sfv, kind3, cat1, retI, retA, List.length_cons, List.length_nil, true_and, and_true, or_true, true_or, qX9_recalledAt, hb.1.1.1, hb.1.1.2.2.2.2.1, not_true_eq_false, not_false_eq_true, false_implies, true_and, and_true, tti]
      refine sX9_recalledAt_28 hb.2.2.1.2.1 (e_fr1 w hf hm fun h2 fc kn => ?_)
      simp only [cont, Option.toList, List.cons_append, List.nil_append]
      refine Ex.wf (fun w2 => ?_)
      have ok := rcl_ok (l := l) fun d hd => (kn.ok hm (l := d) hd).1
      refine rX9_recalledAt_31 ?_
      simp only [bX9_recalledAt_31, run, Nat.reduceAdd, lg, st1, st2, lkill, lset, fvv, sfv, kind3, cat1, retI, retA, List.length_cons, List.length_nil, true_and, and_true, or_true, true_or, qX9_recalledAt]
      refine sX9_recalledAt_34 kn.1.b.lgs.1 (e_recall kn hm hl fun h3 kv => ?_)
      simp only [cont, Option.toList, List.cons_append, List.nil_append]
      refine rX9_recalledAt_37 ?_
      simp only [bX9_recalledAt_37, run, Nat.reduceAdd, lg, st1, st2, lkill, lset, fvv, sfv, kind3, cat1, retI, retA, List.length_cons, List.length_nil, true_and, and_true, or_true, true_or, qX9_recalledAt]
      obtain ⟨q1, q2⟩ := hq l m hl hm rfl rfl h3 (fc.tr kv.fc) (kv.fam w2 kn.1)
      refine sX9_recalledAt_38 (by decide) (e_soundIn ok (fun p hp ez => ?_) fun e n hn => q2 e n hn)
      simp only [cont, Option.toList, List.cons_append, List.nil_append]
      refine rX9_recalledAt_41 ?_
      simp only [bX9_recalledAt_41, run, Nat.reduceAdd, lg, st1, st2, lkill, lset, fvv, sfv, kind3, cat1, retI, retA, List.length_cons, List.length_nil, true_and, and_true, or_true, true_or, qX9_recalledAt]
      exact q1 p hp ez
noncomputable def rwl (D : HD) (f : Nat → Nat) (gv : Nat → List Nat) (l : Nat) : Nat → Nat
  | 0 => 0
  | m + 1 => if (cel D f gv m l).1 = rcl D f gv m l ∧ ¬ (cel D f gv m l).1 = [] then rwl D f gv l m + 1 else rwl D f gv l m
theorem e_countRecalledWell {g : Gp} {l : Nat} {h : AH} {Q : PQ} {f : Nat → Nat} {gv : Nat → List Nat} {op : Nat} {D : HD} (kn : KnA h f gv op D) (hl : l < D.1) (hq : ∀ h', Kv h h' → Q (.inl (some (vI (nI (rwl D f gv l 12))))) h') : Ev g mX9_countRecalledWell [vR 4, vI (nI l)] h Q := by
  have hD1 := kn.1.b.ok.2.1
  refine nX9_countRecalledWell ?_
  refine Ex.wf (fun w => ?_)
  have lp : ∀ d m, m + d = 12 → ∀ (y : AV) (h2 : AH), Kv h h2 → Ex g mX9_countRecalledWell 4 [vR 4, vI (nI l), vI (nI (rwl D f gv l m)), vI (nI m), y] [] h2 (0, 0) Q := by
    intro d
    induction d with
    | zero =>
      intro m hm y h2 kv
      have e : m = 12 := by omega
      subst e
      refine rX9_countRecalledWell_4 ?_
      simp only [bX9_countRecalledWell_4, run, Nat.reduceAdd, lg, st1, st2, lkill, lset, fvv, sfv, kind3, cat1, retI, retA, List.length_cons, List.length_nil, true_and, and_true, or_true, true_or, qX9_countRecalledWell, show ((12 : Int32) ≤ nI 12) = True by decide, not_true_eq_false, not_false_eq_true, false_implies, true_and, and_true, tti]
      refine rX9_countRecalledWell_62 ?_
      simp only [bX9_countRecalledWell_62, run, Nat.reduceAdd, lg, st1, st2, lkill, lset, fvv, sfv, kind3, cat1, retI, retA, List.length_cons, List.length_nil, true_and, and_true, or_true, true_or, qX9_countRecalledWell]
      exact hq h2 kv
    | succ d ih =>
      intro m hm y h2 kv
      have hm12 : m < 12 := by omega
      have nx := ih (m + 1) (by omega)
      rw [rwl] at nx
      have kn2 := kv.knA w kn
      have hb2 := kn2.1.b
      have lx := hb2.2.2.1.2
      have wm := (kn2.ok hm12 hl).1
      have wr := rcl_ok (l := l) fun d hd => (kn2.ok hm12 (l := d) hd).1
      have key := eC_inj wm wr
      refine rX9_countRecalledWell_4 ?_
      simp only [bX9_countRecalledWell_4, run, Nat.reduceAdd, lg, st1, st2, lkill, lset, fvv, sfv, kind3, cat1, retI, retA, List.length_cons, List.length_nil, true_and, and_true, or_true, true_or, qX9_countRecalledWell, show (12 : Int32) ≤ nI m ↔ False from ⟨nI_ge (b := 12) (by omega) (by omega), False.elim⟩, hb2.1.1.1, hb2.1.1.2.2.2.2.1, not_true_eq_false, not_false_eq_true, false_implies, true_and, and_true, tti]
      refine sX9_countRecalledWell_16 lx.1 (e_wordOf lx (by omega) hm12 (kn2.2 m hm12 l hl) ?_)
      simp only [cont, Option.toList, List.cons_append, List.nil_append]
      refine rX9_countRecalledWell_19 ?_
      simp only [bX9_countRecalledWell_19, run, Nat.reduceAdd, lg, st1, st2, lkill, lset, fvv, sfv, kind3, cat1, retI, retA, List.length_cons, List.length_nil, true_and, and_true, or_true, true_or, qX9_countRecalledWell]
      refine sX9_countRecalledWell_22 hb2.lgs.1 (e_recall (kn2.at1 hm12) hm12 hl fun h3 kv3 => ?_)
      simp only [cont, Option.toList, List.cons_append, List.nil_append]
      have kv' := kv.tr kv3
      have kn3 := kv'.knA w kn
      have hb3 := kn3.1.b
      have lx3 := hb3.2.2.1.2
      by_cases same : (cel D f gv m l).1 = rcl D f gv m l
      · have e0 : lg_cmp (eC (cel D f gv m l).1) (eC (rcl D f gv m l)) = 0 := (lg_cmp_eq _ _).mpr (key.mpr same)
        refine rX9_countRecalledWell_25 ?_
        simp only [bX9_countRecalledWell_25, run, Nat.reduceAdd, lg, st1, st2, lkill, lset, fvv, sfv, kind3, cat1, retI, retA, List.length_cons, List.length_nil, true_and, and_true, or_true, true_or, qX9_countRecalledWell, e0, show ¬ (1 : Int32) = 0 by decide, hb3.1.1.1, hb3.1.1.2.2.2.2.1, not_true_eq_false, not_false_eq_true, false_implies, true_and, and_true, tti]
        refine sX9_countRecalledWell_47 lx3.1 (e_hasWord lx3 wm (by omega) hm12 (kn3.2 m hm12 l hl).1 ?_)
        simp only [cont, Option.toList, List.cons_append, List.nil_append]
        by_cases hw : (cel D f gv m l).1 = []
        · rw [if_neg (fun q => q.2 hw)] at nx
          refine rX9_countRecalledWell_50 ?_
          simp only [bX9_countRecalledWell_50, run, Nat.reduceAdd, lg, st1, st2, lkill, lset, fvv, sfv, kind3, cat1, retI, retA, List.length_cons, List.length_nil, true_and, and_true, or_true, true_or, qX9_countRecalledWell, if_pos hw, not_true_eq_false, not_false_eq_true, false_implies, true_and, and_true, tti]
          refine rX9_countRecalledWell_56 ?_
          simp only [bX9_countRecalledWell_56, run, Nat.reduceAdd, lg, st1, st2, lkill, lset, fvv, sfv, kind3, cat1, retI, retA, List.length_cons, List.length_nil, true_and, and_true, or_true, true_or, qX9_countRecalledWell, nI_1]
          exact nx _ h3 kv'
        · rw [if_pos ⟨same, hw⟩] at nx
          refine rX9_countRecalledWell_50 ?_
          simp only [bX9_countRecalledWell_50, run, Nat.reduceAdd, lg, st1, st2, lkill, lset, fvv, sfv, kind3, cat1, retI, retA, List.length_cons, List.length_nil, true_and, and_true, or_true, true_or, qX9_countRecalledWell, if_neg hw, show ¬ (1 : Int32) = 0 by decide, nI_1, not_true_eq_false, not_false_eq_true, false_implies, true_and, and_true, tti]
          exact nx _ h3 kv'
      · have e0 : lg_cmp (eC (cel D f gv m l).1) (eC (rcl D f gv m l)) = 0 ↔ False := ⟨fun q => same (key.mp ((lg_cmp_eq _ _).mp q)), False.elim⟩
        rw [if_neg (fun q => same q.1)] at nx
        refine rX9_countRecalledWell_25 ?_
        simp only [bX9_countRecalledWell_25, run, Nat.reduceAdd, lg, st1, st2, lkill, lset, fvv, sfv, kind3, cat1, retI, retA, List.length_cons, List.length_nil, true_and, and_true, or_true, true_or, qX9_countRecalledWell, e0, not_true_eq_false, not_false_eq_true, false_implies, true_and, and_true, tti]
        refine rX9_countRecalledWell_33 ?_
        simp only [bX9_countRecalledWell_33, run, Nat.reduceAdd, lg, st1, st2, lkill, lset, fvv, sfv, kind3, cat1, retI, retA, List.length_cons, List.length_nil, true_and, and_true, or_true, true_or, qX9_countRecalledWell, not_true_eq_false, not_false_eq_true, false_implies, true_and, and_true, tti]
        refine rX9_countRecalledWell_56 ?_
        simp only [bX9_countRecalledWell_56, run, Nat.reduceAdd, lg, st1, st2, lkill, lset, fvv, sfv, kind3, cat1, retI, retA, List.length_cons, List.length_nil, true_and, and_true, or_true, true_or, qX9_countRecalledWell, nI_1]
        exact nx _ h3 kv'
  refine rX9_countRecalledWell_0 ?_
  simp only [bX9_countRecalledWell_0, run, Nat.reduceAdd, lg, st1, st2, lkill, lset, fvv, sfv, kind3, cat1, retI, retA, List.length_cons, List.length_nil, true_and, and_true, or_true, true_or, qX9_countRecalledWell]
  exact lp 12 0 rfl _ h Kv.rf
theorem e_recalledWell {g : Gp} {x : Int32} {h : AH} {Q : PQ} {f : Nat → Nat} {gv : Nat → List Nat} {op : Nat} {D : HD} (hf : FamR h f gv op D)
    (hq : ∀ l, l < D.1 → x = nI l → ∀ h', Fc h h' → FamR h' f gv op D → Q (.inl (some (vI (nI (rwl D f gv l 12))))) h')
    (hx : inb x D.1 = false → ∀ n, zN h ≤ n → Q (.inr 1) (bump h n)) : Ev g mX9_recalledWell [vR 4, vI x] h Q := by
  have hb := hf.b
  have hD1 := hb.ok.2.1
  refine nX9_recalledWell ?_
  refine Ex.wf (fun w => ?_)
  refine rX9_recalledWell_0 ?_
  simp only [bX9_recalledWell_0, run, Nat.reduceAdd, lg, st1, st2, lkill, lset, fvv, sfv, kind3, cat1, retI, retA, List.length_cons, List.length_nil, true_and, and_true, or_true, true_or, qX9_recalledWell]
  refine sX9_recalledWell_2 hb.lgs.1 (e_isLanguage hb ?_)
  simp only [cont, Option.toList, List.cons_append, List.nil_append]
  refine sX9_recalledWell_5 (by decide) (e_requireThere (fun q => ?_) fun q n hn => hx (bi_0.mp q) n hn)
  simp only [cont, Option.toList, List.cons_append, List.nil_append]
  obtain ⟨l, hl, rfl⟩ := inb_t (by omega) (ts_nf fun e => q (bi_0.mpr e))
  refine rX9_recalledWell_8 ?_
  simp only [bX9_recalledWell_8, run, Nat.reduceAdd, lg, st1, st2, lkill, lset, fvv, sfv, kind3, cat1, retI, retA, List.length_cons, List.length_nil, true_and, and_true, or_true, true_or, qX9_recalledWell, hb.1.1.1, hb.1.1.2.2.2.2.1, not_true_eq_false, not_false_eq_true, false_implies, true_and, and_true, tti]
  refine sX9_recalledWell_12 hb.2.2.1.2.1 (e_frA w hf fun h2 fc kn => ?_)
  simp only [cont, Option.toList, List.cons_append, List.nil_append]
  refine Ex.wf (fun w2 => ?_)
  refine rX9_recalledWell_15 ?_
  simp only [bX9_recalledWell_15, run, Nat.reduceAdd, lg, st1, st2, lkill, lset, fvv, sfv, kind3, cat1, retI, retA, List.length_cons, List.length_nil, true_and, and_true, or_true, true_or, qX9_recalledWell]
  refine sX9_recalledWell_17 kn.1.b.lgs.1 (e_countRecalledWell kn hl fun h3 kv => ?_)
  simp only [cont, Option.toList, List.cons_append, List.nil_append]
  refine rX9_recalledWell_20 ?_
  simp only [bX9_recalledWell_20, run, Nat.reduceAdd, lg, st1, st2, lkill, lset, fvv, sfv, kind3, cat1, retI, retA, List.length_cons, List.length_nil, true_and, and_true, or_true, true_or, qX9_recalledWell]
  exact hq l hl rfl h3 (fc.tr kv.fc) (kv.fam w2 kn.1)
