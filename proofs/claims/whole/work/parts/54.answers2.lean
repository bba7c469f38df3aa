/-! ===== answers, mainAnswer ===== -/
def anw (D : HD) (f : Nat → Nat) (gv : Nat → List Nat) (i j s t : Nat) : Nat := ans (fun m => kcl f (cel D f gv m i) (cel D f gv m j)) s t 12
theorem anw_le {D : HD} {f : Nat → Nat} {gv : Nat → List Nat} {i j s t : Nat} (h : ∀ m, m < 12 → Wok (cel D f gv m i).1 ∧ Wok (cel D f gv m j).1) : anw D f gv i j s t ≤ 240 := ans_le 12 fun k hk => kcl_len (h k hk).1 (h k hk).2
theorem e_answers {g : Gp} {a0 a1 a2 a3 : Int32} {h : AH} {Q : PQ} {f : Nat → Nat} {gv : Nat → List Nat} {op : Nat} {D : HD} (hf : FamR h f gv op D)
    (hq : ∀ i j s t, i < D.1 → j < D.1 → s ≤ 16 → t ≤ 16 → a0 = nI i → a1 = nI j → a2 = bI s → a3 = bI t → ∀ h', Fc h h' → FamR h' f gv op D → Q (.inl (some (vI (nI (anw D f gv i j (sg s) (sg t)))))) h')
    (hx : (inb a0 D.1 && inb a1 D.1) = false → ∀ n, zN h ≤ n → Q (.inr 1) (bump h n))
    (hx2 : (inb a0 D.1 && inb a1 D.1) = true → (okN a2 && okN a3) = false → ∀ n, zN h ≤ n → Q (.inr 2) (bump h n)) : Ev g mX9_answers [vR 4, vI a0, vI a1, vI a2, vI a3] h Q := by
  have hb := hf.b
  have hD1 := hb.ok.2.1
  refine nX9_answers ?_
  refine Ex.wf (fun w => ?_)
  have bad1 : (inb a0 D.1 && inb a1 D.1) = false → Ex g mX9_answers 20 [vR 4, vI a0, vI a1, vI a2, vI a3] [] h (0, 0) Q := fun e => by
    refine rX9_answers_20 ?_
    simp only [bX9_answers_20, run, Nat.reduceAdd, lg, st1, st2, lkill, lset, fvv, sfv, kind3, cat1, retI, retA, List.length_cons, List.length_nil, true_and, and_true, or_true, true_or, qX9_answers]
    exact sX9_answers_21 (by decide) (e_requireThere (fun q => absurd rfl q) fun _ n hn => hx e n hn)
  refine rX9_answers_0 ?_
  simp only [bX9_answers_0, run, Nat.reduceAdd, lg, st1, st2, lkill, lset, fvv, sfv, kind3, cat1, retI, retA, List.length_cons, List.length_nil, true_and, and_true, or_true, true_or, qX9_answers]
  refine sX9_answers_2 hb.lgs.1 (e_isLanguage hb ?_)
  simp only [cont, Option.toList, List.cons_append, List.nil_append]
  cases e1 : inb a0 D.1 with
  | false =>
    refine rX9_answers_5 ?_
    simp only [bX9_answers_5, run, Nat.reduceAdd, lg, st1, st2, lkill, lset, fvv, sfv, kind3, cat1, retI, retA, List.length_cons, List.length_nil, true_and, and_true, or_true, true_or, qX9_answers, show bi false = 0 from rfl, not_true_eq_false, not_false_eq_true, false_implies, true_and, and_true, tti]
    exact bad1 (by rw [e1]; rfl)
  | true =>
    refine rX9_answers_5 ?_
    simp only [bX9_answers_5, run, Nat.reduceAdd, lg, st1, st2, lkill, lset, fvv, sfv, kind3, cat1, retI, retA, List.length_cons, List.length_nil, true_and, and_true, or_true, true_or, qX9_answers, show ¬ bi true = 0 by decide, not_true_eq_false, not_false_eq_true, false_implies, true_and, and_true, tti]
    refine sX9_answers_10 hb.lgs.1 (e_isLanguage hb ?_)
    simp only [cont, Option.toList, List.cons_append, List.nil_append]
    cases e2 : inb a1 D.1 with
    | false =>
      refine rX9_answers_13 ?_
      simp only [bX9_answers_13, run, Nat.reduceAdd, lg, st1, st2, lkill, lset, fvv, sfv, kind3, cat1, retI, retA, List.length_cons, List.length_nil, true_and, and_true, or_true, true_or, qX9_answers, show bi false = 0 from rfl, not_true_eq_false, not_false_eq_true, false_implies, true_and, and_true, tti]
      exact bad1 (by rw [e1, e2]; rfl)
    | true =>
      have bad2 : (okN a2 && okN a3) = false → Ex g mX9_answers 43 [vR 4, vI a0, vI a1, vI a2, vI a3] [] h (1, 6) Q := fun e => by
        refine rX9_answers_43 ?_
        simp only [bX9_answers_43, run, Nat.reduceAdd, lg, st1, st2, lkill, lset, fvv, sfv, kind3, cat1, retI, retA, List.length_cons, List.length_nil, true_and, and_true, or_true, true_or, qX9_answers]
        exact sX9_answers_44 (by decide) (e_refuseUnless (fun q => absurd rfl q) fun _ n hn => hx2 (by rw [e1, e2]; rfl) e n hn)
      refine rX9_answers_13 ?_
      simp only [bX9_answers_13, run, Nat.reduceAdd, lg, st1, st2, lkill, lset, fvv, sfv, kind3, cat1, retI, retA, List.length_cons, List.length_nil, true_and, and_true, or_true, true_or, qX9_answers, show ¬ bi true = 0 by decide, not_true_eq_false, not_false_eq_true, false_implies, true_and, and_true, tti]
      refine sX9_answers_21 (by decide) (e_requireThere (fun _ => ?_) fun q => absurd q (by decide))
      simp only [cont, Option.toList, List.cons_append, List.nil_append]
      refine rX9_answers_24 ?_
      simp only [bX9_answers_24, run, Nat.reduceAdd, lg, st1, st2, lkill, lset, fvv, sfv, kind3, cat1, retI, retA, List.length_cons, List.length_nil, true_and, and_true, or_true, true_or, qX9_answers]
      refine sX9_answers_25 (e_isSoundOrNone ?_)
      simp only [cont, Option.toList, List.cons_append, List.nil_append]
      cases e3 : okN a2 with
      | false =>
        refine rX9_answers_28 ?_
        simp only [bX9_answers_28, run, Nat.reduceAdd, lg, st1, st2, lkill, lset, fvv, sfv, kind3, cat1, retI, retA, List.length_cons, List.length_nil, true_and, and_true, or_true, true_or, qX9_answers, show bi false = 0 from rfl, not_true_eq_false, not_false_eq_true, false_implies, true_and, and_true, tti]
        exact bad2 (by rw [e3]; rfl)
      | true =>
        refine rX9_answers_28 ?_
        simp only [bX9_answers_28, run, Nat.reduceAdd, lg, st1, st2, lkill, lset, fvv, sfv, kind3, cat1, retI, retA, List.length_cons, List.length_nil, true_and, and_true, or_true, true_or, qX9_answers, show ¬ bi true = 0 by decide, not_true_eq_false, not_false_eq_true, false_implies, true_and, and_true, tti]
        refine sX9_answers_33 (e_isSoundOrNone ?_)
        simp only [cont, Option.toList, List.cons_append, List.nil_append]
        cases e4 : okN a3 with
        | false =>
          refine rX9_answers_36 ?_
          simp only [bX9_answers_36, run, Nat.reduceAdd, lg, st1, st2, lkill, lset, fvv, sfv, kind3, cat1, retI, retA, List.length_cons, List.length_nil, true_and, and_true, or_true, true_or, qX9_answers, show bi false = 0 from rfl, not_true_eq_false, not_false_eq_true, false_implies, true_and, and_true, tti]
          exact bad2 (by rw [e3, e4]; rfl)
        | true =>
          refine rX9_answers_36 ?_
          simp only [bX9_answers_36, run, Nat.reduceAdd, lg, st1, st2, lkill, lset, fvv, sfv, kind3, cat1, retI, retA, List.length_cons, List.length_nil, true_and, and_true, or_true, true_or, qX9_answers, show ¬ bi true = 0 by decide, not_true_eq_false, not_false_eq_true, false_implies, true_and, and_true, tti]
          refine sX9_answers_44 (by decide) (e_refuseUnless (fun _ => ?_) fun q => absurd q (by decide))
          simp only [cont, Option.toList, List.cons_append, List.nil_append]
          obtain ⟨i, hi, rfl⟩ := inb_t (by omega) e1
          obtain ⟨j, hj, rfl⟩ := inb_t (by omega) e2
          obtain ⟨s, hs, rfl⟩ := okN_t e3
          obtain ⟨t, ht, rfl⟩ := okN_t e4
          refine rX9_answers_47 ?_
          simp only [bX9_answers_47, run, Nat.reduceAdd, lg, st1, st2, lkill, lset, fvv, sfv, kind3, cat1, retI, retA, List.length_cons, List.length_nil, true_and, and_true, or_true, true_or, qX9_answers, hb.1.1.1, hb.1.1.2.2.2.2.1, not_true_eq_false, not_false_eq_true, false_implies, true_and, and_true, tti]
          refine sX9_answers_51 hb.2.2.1.2.1 (e_frA w hf fun h2 fc kn => ?_)
          simp only [cont, Option.toList, List.cons_append, List.nil_append]
          refine Ex.wf (fun w2 => ?_)
          refine rX9_answers_54 ?_
          simp only [bX9_answers_54, run, Nat.reduceAdd, lg, st1, st2, lkill, lset, fvv, sfv, kind3, cat1, retI, retA, List.length_cons, List.length_nil, true_and, and_true, or_true, true_or, qX9_answers]
          refine sX9_answers_58 (e_columnSign hs ?_)
          simp only [cont, Option.toList, List.cons_append, List.nil_append]
          refine sX9_answers_61 kn.1.b.lgs.1 (e_collectAnswers kn hi hj (sg_lt hs) fun h3 y vt => ?_)
          simp only [cont, Option.toList, List.cons_append, List.nil_append]
          have fr := y.fam w2 kn.1
          obtain ⟨-, -, -, -, -, -, -, -, f8, -⟩ := fr.b.1.1
          have v3 := fr.b.2.2.2.2.2.2.1
          have v30 := v3.2 0 (by decide)
          refine rX9_answers_64 ?_
          simp only [bX9_answers_64, run, Nat.reduceAdd, lg, st1, st2, lkill, lset, fvv, sfv, kind3, cat1, retI, retA, List.length_cons, List.length_nil, true_and, and_true, or_true, true_or, qX9_answers, fr.b.1.1.1, f8, v3.1, show Int32.toNatClampNeg 0 = 0 from rfl, v30.1, not_true_eq_false, not_false_eq_true, false_implies, true_and, and_true, tti]
          refine ⟨vp_0 (by decide) (by decide), sX9_answers_72 (e_columnSign ht ?_)⟩
          simp only [cont, Option.toList, List.cons_append, List.nil_append]
          refine sX9_answers_75 v30.2.1 (e_countOf v3 (by decide) (sg_lt ht) vt ?_)
          simp only [cont, Option.toList, List.cons_append, List.nil_append]
          refine rX9_answers_78 ?_
          simp only [bX9_answers_78, run, Nat.reduceAdd, lg, st1, st2, lkill, lset, fvv, sfv, kind3, cat1, retI, retA, List.length_cons, List.length_nil, true_and, and_true, or_true, true_or, qX9_answers]
          exact hq i j s t hi hj hs ht rfl rfl rfl rfl h3 (fc.tr y.fc) fr
/-- what answers most: 0 nothing, 1 none, t + 2 sound t -/
def mnA (c : Nat → Nat) : Nat := if (wn c 17).1 = 0 then 0 else if (wn c 17).1 = 17 then 1 else (wn c 17).1 + 1
def m2I (n : Nat) : Int32 := nI n - 2
theorem m2I_s {n : Nat} : m2I (n + 1) = bI n := by
  unfold m2I bI
  rw [show (2 : Int32) = 1 + 1 by decide, show nI (n + 1) = nI n + 1 by rw [← nI_add]; rfl]
  generalize nI n = x
  rw [Int32.sub_eq_add_neg, Int32.sub_eq_add_neg, Int32.add_assoc]
  congr 1
theorem e_mainAnswer {g : Gp} {a0 a1 a2 : Int32} {h : AH} {Q : PQ} {f : Nat → Nat} {gv : Nat → List Nat} {op : Nat} {D : HD} (hf : FamR h f gv op D)
    (hq : ∀ i j s, i < D.1 → j < D.1 → s < 16 → a0 = nI i → a1 = nI j → a2 = nI s → ∀ h', Fc h h' → FamR h' f gv op D → Q (.inl (some (vI (m2I (mnA (fun t => anw D f gv i j s t)))))) h')
    (hx : (inb a0 D.1 && inb a1 D.1) = false → ∀ n, zN h ≤ n → Q (.inr 1) (bump h n))
    (hx2 : (inb a0 D.1 && inb a1 D.1) = true → inb a2 16 = false → ∀ n, zN h ≤ n → Q (.inr 2) (bump h n)) : Ev g mX9_mainAnswer [vR 4, vI a0, vI a1, vI a2] h Q := by
  have hb := hf.b
  have hD1 := hb.ok.2.1
  refine nX9_mainAnswer ?_
  refine Ex.wf (fun w => ?_)
  have bad1 : (inb a0 D.1 && inb a1 D.1) = false → Ex g mX9_mainAnswer 20 [vR 4, vI a0, vI a1, vI a2, vU] [] h (0, 0) Q := fun e => by
    refine rX9_mainAnswer_20 ?_
    simp only [bX9_mainAnswer_20, run, Nat.reduceAdd, lg, st1, st2, lkill, lset, fvv, sfv, kind3, cat1, retI, retA, List.length_cons, List.length_nil, true_and, and_true, or_true, true_or, qX9_mainAnswer]
    exact sX9_mainAnswer_21 (by decide) (e_requireThere (fun q => absurd rfl q) fun _ n hn => hx e n hn)
  refine rX9_mainAnswer_0 ?_
  simp only [bX9_mainAnswer_0, run, Nat.reduceAdd, lg, st1, st2, lkill, lset, fvv, sfv, kind3, cat1, retI, retA, List.length_cons, List.length_nil, true_and, and_true, or_true, true_or, qX9_mainAnswer]
  refine sX9_mainAnswer_2 hb.lgs.1 (e_isLanguage hb ?_)
  simp only [cont, Option.toList, List.cons_append, List.nil_append]
  cases e1 : inb a0 D.1 with
  | false =>
    refine rX9_mainAnswer_5 ?_
    simp only [bX9_mainAnswer_5, run, Nat.reduceAdd, lg, st1, st2, lkill, lset, fvv, sfv, kind3, cat1, retI, retA, List.length_cons, List.length_nil, true_and, and_true, or_true, true_or, qX9_mainAnswer, show bi false = 0 from rfl, not_true_eq_false, not_false_eq_true, false_implies, true_and, and_true, tti]
    exact bad1 (by rw [e1]; rfl)
  | true =>
    refine rX9_mainAnswer_5 ?_
    simp only [bX9_mainAnswer_5, run, Nat.reduceAdd, lg, st1, st2, lkill, lset, fvv, sfv, kind3, cat1, retI, retA, List.length_cons, List.length_nil, true_and, and_true, or_true, true_or, qX9_mainAnswer, show ¬ bi true = 0 by decide, not_true_eq_false, not_false_eq_true, false_implies, true_and, and_true, tti]
    refine sX9_mainAnswer_10 hb.lgs.1 (e_isLanguage hb ?_)
    simp only [cont, Option.toList, List.cons_append, List.nil_append]
    cases e2 : inb a1 D.1 with
    | false =>
      refine rX9_mainAnswer_13 ?_
      simp only [bX9_mainAnswer_13, run, Nat.reduceAdd, lg, st1, st2, lkill, lset, fvv, sfv, kind3, cat1, retI, retA, List.length_cons, List.length_nil, true_and, and_true, or_true, true_or, qX9_mainAnswer, show bi false = 0 from rfl, not_true_eq_false, not_false_eq_true, false_implies, true_and, and_true, tti]
      exact bad1 (by rw [e1, e2]; rfl)
    | true =>
      refine rX9_mainAnswer_13 ?_
      simp only [bX9_mainAnswer_13, run, Nat.reduceAdd, lg, st1, st2, lkill, lset, fvv, sfv, kind3, cat1, retI, retA, List.length_cons, List.length_nil, true_and, and_true, or_true, true_or, qX9_mainAnswer, show ¬ bi true = 0 by decide, not_true_eq_false, not_false_eq_true, false_implies, true_and, and_true, tti]
      refine sX9_mainAnswer_21 (by decide) (e_requireThere (fun _ => ?_) fun q => absurd q (by decide))
      simp only [cont, Option.toList, List.cons_append, List.nil_append]
      refine rX9_mainAnswer_24 ?_
      simp only [bX9_mainAnswer_24, run, Nat.reduceAdd, lg, st1, st2, lkill, lset, fvv, sfv, kind3, cat1, retI, retA, List.length_cons, List.length_nil, true_and, and_true, or_true, true_or, qX9_mainAnswer]
      refine sX9_mainAnswer_25 (e_isSound ?_)
      simp only [cont, Option.toList, List.cons_append, List.nil_append]
      refine sX9_mainAnswer_28 (by decide) (e_refuseUnless (fun q => ?_) fun q n hn => hx2 (by rw [e1, e2]; rfl) (bi_0.mp q) n hn)
      simp only [cont, Option.toList, List.cons_append, List.nil_append]
      obtain ⟨i, hi, rfl⟩ := inb_t (by omega) e1
      obtain ⟨j, hj, rfl⟩ := inb_t (by omega) e2
      obtain ⟨s, hs, rfl⟩ := inb_t (by decide) (ts_nf fun e => q (bi_0.mpr e))
      refine rX9_mainAnswer_31 ?_
      simp only [bX9_mainAnswer_31, run, Nat.reduceAdd, lg, st1, st2, lkill, lset, fvv, sfv, kind3, cat1, retI, retA, List.length_cons, List.length_nil, true_and, and_true, or_true, true_or, qX9_mainAnswer, hb.1.1.1, hb.1.1.2.2.2.2.1, not_true_eq_false, not_false_eq_true, false_implies, true_and, and_true, tti]
      refine sX9_mainAnswer_35 hb.2.2.1.2.1 (e_frA w hf fun h2 fc kn => ?_)
      simp only [cont, Option.toList, List.cons_append, List.nil_append]
      refine Ex.wf (fun w2 => ?_)
      refine rX9_mainAnswer_38 ?_
      simp only [bX9_mainAnswer_38, run, Nat.reduceAdd, lg, st1, st2, lkill, lset, fvv, sfv, kind3, cat1, retI, retA, List.length_cons, List.length_nil, true_and, and_true, or_true, true_or, qX9_mainAnswer]
      refine sX9_mainAnswer_42 kn.1.b.lgs.1 (e_collectAnswers kn hi hj (by omega) fun h3 y vt => ?_)
      simp only [cont, Option.toList, List.cons_append, List.nil_append]
      have fr := y.fam w2 kn.1
      have z := hq i j s hi hj hs rfl rfl rfl h3 (fc.tr y.fc) fr
      have le : ∀ t, (fun t => anw D f gv i j s t) t ≤ 240 := fun t => anw_le fun m hm => ⟨(kn.ok hm hi).1, (kn.ok hm hj).1⟩
      change VtR h3 0 (fun t => anw D f gv i j s t) at vt
      generalize (fun t => anw D f gv i j s t) = c at vt z le
      have lw := wn_le c 17
      obtain ⟨-, -, -, -, -, -, -, -, f8, -⟩ := fr.b.1.1
      have v3 := fr.b.2.2.2.2.2.2.1
      have v30 := v3.2 0 (by decide)
      refine rX9_mainAnswer_45 ?_
      simp only [bX9_mainAnswer_45, run, Nat.reduceAdd, lg, st1, st2, lkill, lset, fvv, sfv, kind3, cat1, retI, retA, List.length_cons, List.length_nil, true_and, and_true, or_true, true_or, qX9_mainAnswer, fr.b.1.1.1, f8, v3.1, show Int32.toNatClampNeg 0 = 0 from rfl, v30.1, not_true_eq_false, not_false_eq_true, false_implies, true_and, and_true, tti]
      refine ⟨vp_0 (by decide) (by decide), sX9_mainAnswer_51 v30.2.1 (e_winner v3 (by decide) vt (fun s => by have := le s; omega) ?_)⟩
      simp only [cont, Option.toList, List.cons_append, List.nil_append]
      unfold mnA at z
      by_cases z0 : (wn c 17).1 = 0
      · rw [if_pos z0] at z
        refine rX9_mainAnswer_54 ?_
        simp only [bX9_mainAnswer_54, run, Nat.reduceAdd, lg, st1, st2, lkill, lset, fvv, sfv, kind3, cat1, retI, retA, List.length_cons, List.length_nil, true_and, and_true, or_true, true_or, qX9_mainAnswer, z0, show bI 0 = -1 from bI_0, not_true_eq_false, not_false_eq_true, false_implies, true_and, and_true, tti]
        exact z
      · rw [if_neg z0] at z
        obtain ⟨t, ht⟩ : ∃ t, (wn c 17).1 = t + 1 := ⟨(wn c 17).1 - 1, by omega⟩
        rw [ht] at z lw
        rw [ht, bI_s]
        refine rX9_mainAnswer_54 ?_
        simp only [bX9_mainAnswer_54, run, Nat.reduceAdd, lg, st1, st2, lkill, lset, fvv, sfv, kind3, cat1, retI, retA, List.length_cons, List.length_nil, true_and, and_true, or_true, true_or, qX9_mainAnswer, show nI t = -1 ↔ False from ⟨nI_m1 (by omega), False.elim⟩, not_true_eq_false, not_false_eq_true, false_implies, true_and, and_true, tti]
        by_cases z1 : t = 16
        · subst z1
          refine rX9_mainAnswer_65 ?_
          simp only [bX9_mainAnswer_65, run, Nat.reduceAdd, lg, st1, st2, lkill, lset, fvv, sfv, kind3, cat1, retI, retA, List.length_cons, List.length_nil, true_and, and_true, or_true, true_or, qX9_mainAnswer, show nI 16 = 16 from rfl, not_true_eq_false, not_false_eq_true, false_implies, true_and, and_true, tti]
          exact z
        · rw [if_neg (by omega)] at z
          refine rX9_mainAnswer_65 ?_
          simp only [bX9_mainAnswer_65, run, Nat.reduceAdd, lg, st1, st2, lkill, lset, fvv, sfv, kind3, cat1, retI, retA, List.length_cons, List.length_nil, true_and, and_true, or_true, true_or, qX9_mainAnswer, show nI t = 16 ↔ False from ⟨fun q => z1 ((nI_eq (b := 16) (by omega) (by omega)).mp q), False.elim⟩, not_true_eq_false, not_false_eq_true, false_implies, true_and, and_true, tti]
          refine rX9_mainAnswer_76 ?_
          simp only [bX9_mainAnswer_76, run, Nat.reduceAdd, lg, st1, st2, lkill, lset, fvv, sfv, kind3, cat1, retI, retA, List.length_cons, List.length_nil, true_and, and_true, or_true, true_or, qX9_mainAnswer]
          rw [show m2I (t + 1 + 1) = nI t by rw [m2I_s, bI_s]] at z
          exact z
