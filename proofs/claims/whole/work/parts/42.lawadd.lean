theorem getD_snocG {α : Type} {xs : List α} {c d : α} {l : Nat} : (xs ++ [c]).getD l d = if l = xs.length then c else xs.getD l d := by
  by_cases h : l = xs.length
  · rw [if_pos h, h, List.getD_eq_getElem?_getD, List.getElem?_append_right (Nat.le_refl _), Nat.sub_self]; rfl
  · rw [if_neg h]
    by_cases h2 : l < xs.length
    · rw [List.getD_eq_getElem?_getD, List.getElem?_append_left h2, ← List.getD_eq_getElem?_getD]
    · rw [List.getD_eq_getElem?_getD, List.getD_eq_getElem?_getD, List.getElem?_eq_none (by simp; omega), List.getElem?_eq_none (by omega)]
theorem e_law {g : Gp} {x a1 a2 a3 a4 : Int32} {h : AH} {Q : PQ} {f : Nat → Nat} {gv : Nat → List Nat} {op : Nat} {D : HD} (hf : FamR h f gv op D)
    (hq : ∀ l s b p q, l < D.1 → x = nI l → lwOk (s, b, p, q) → 1 ≤ s → a1 = nI s → a2 = bI b → a3 = nI p → a4 = nI q → 0 < l → (D.2.2.1 l).length < 8 → ∀ h', Fc h h' → FamR h' f gv op (setW D l (D.2.2.1 l ++ [(s, b, p, q)])) → Q (.inl (some (vI (nI ((D.2.2.1 l).length + 1))))) h')
    (hx : inb x D.1 = false → ∀ n, zN h ≤ n → Q (.inr 1) (bump h n))
    (hx2 : inb x D.1 = true → (okS a1 && okB a2 && (inb a3 131072 && inb a4 131072)) = false → ∀ h', Kn h h' → FamR h' f gv op D → Q (.inr 2) h')
    (hy : ∀ l, l < D.1 → x = nI l → (okS a1 && okB a2 && (inb a3 131072 && inb a4 131072)) = true → (l = 0 ∨ (D.2.2.1 l).length = 8) → ∀ h', Kn h h' → FamR h' f gv op D → Q (.inr 3) h') : Ev g mX9_law [vR 4, vI x, vI a1, vI a2, vI a3, vI a4] h Q := by
  have hb := hf.b
  have hD := hb.ok
  have hD1 := hD.2.1
  have bmp : ∀ n, zN h ≤ n → FamR (bump h n) f gv op D := fun n _ => hf
  refine nX9_law ?_
  refine Ex.wf (fun w => ?_)
  refine rX9_law_0 ?_
  simp only [bX9_law_0, run, Nat.reduceAdd, lg, st1, st2, lkill, lset, fvv, sfv, kind3, cat1, retI, retA, List.length_cons, List.length_nil, true_and, and_true, or_true, true_or, qX9_law]
  refine sX9_law_2 hb.lgs.1 (e_isLanguage hb ?_)
  simp only [cont, Option.toList, List.cons_append, List.nil_append]
  refine sX9_law_5 (by decide) (e_requireThere (fun q => ?_) fun q n hn => hx (bi_0.mp q) n hn)
  simp only [cont, Option.toList, List.cons_append, List.nil_append]
  have hin := ts_nf fun e => q (bi_0.mpr e)
  obtain ⟨l, hl, rfl⟩ := inb_t (by omega) hin
  have h8 := hD.2.2.2.1 l hl
  have bad1 : (okS a1 && okB a2) = false → Ex g mX9_law 34 [vR 4, vI (nI l), vI a1, vI a2, vI a3, vI a4, vU] [] h (1, 6) Q := fun e => by
    refine rX9_law_34 ?_
    simp only [bX9_law_34, run, Nat.reduceAdd, lg, st1, st2, lkill, lset, fvv, sfv, kind3, cat1, retI, retA, List.length_cons, List.length_nil, true_and, and_true, or_true, true_or, qX9_law]
    exact sX9_law_35 (by decide) (e_refuseUnless (fun q => absurd rfl q) fun _ n hn => hx2 hin (by rw [e]; rfl) _ (Kp.bump hn) (bmp n hn))
  have cont38 : (okS a1 && okB a2) = true → Ex g mX9_law 35 [vR 4, vI (nI l), vI a1, vI a2, vI a3, vI a4, vU] [vI 1] h (1, 6) Q := fun e12 => by
    refine sX9_law_35 (by decide) (e_refuseUnless (fun _ => ?_) fun q => absurd q (by decide))
    simp only [cont, Option.toList, List.cons_append, List.nil_append]
    have bad2 : (inb a3 131072 && inb a4 131072) = false → Ex g mX9_law 58 [vR 4, vI (nI l), vI a1, vI a2, vI a3, vI a4, vU] [] h (2, 12) Q := fun e => by
      refine rX9_law_58 ?_
      simp only [bX9_law_58, run, Nat.reduceAdd, lg, st1, st2, lkill, lset, fvv, sfv, kind3, cat1, retI, retA, List.length_cons, List.length_nil, true_and, and_true, or_true, true_or, qX9_law]
      exact sX9_law_59 (by decide) (e_refuseUnless (fun q => absurd rfl q) fun _ n hn => hx2 hin (by rw [e, Bool.and_false]) _ (Kp.bump hn) (bmp n hn))
    refine rX9_law_38 ?_
    simp only [bX9_law_38, run, Nat.reduceAdd, lg, st1, st2, lkill, lset, fvv, sfv, kind3, cat1, retI, retA, List.length_cons, List.length_nil, true_and, and_true, or_true, true_or, qX9_law]
    refine sX9_law_40 (e_neigh ?_)
    simp only [cont, Option.toList, List.cons_append, List.nil_append]
    cases e3 : inb a3 131072 with
    | false =>
      refine rX9_law_43 ?_
      simp only [bX9_law_43, run, Nat.reduceAdd, lg, st1, st2, lkill, lset, fvv, sfv, kind3, cat1, retI, retA, List.length_cons, List.length_nil, true_and, and_true, or_true, true_or, qX9_law, show bi false = 0 from rfl, not_true_eq_false, not_false_eq_true, false_implies, true_and, and_true, tti]
      exact bad2 (by rw [e3]; rfl)
    | true =>
      refine rX9_law_43 ?_
      simp only [bX9_law_43, run, Nat.reduceAdd, lg, st1, st2, lkill, lset, fvv, sfv, kind3, cat1, retI, retA, List.length_cons, List.length_nil, true_and, and_true, or_true, true_or, qX9_law, show ¬ bi true = 0 by decide, not_true_eq_false, not_false_eq_true, false_implies, true_and, and_true, tti]
      refine sX9_law_48 (e_neigh ?_)
      simp only [cont, Option.toList, List.cons_append, List.nil_append]
      cases e4 : inb a4 131072 with
      | false =>
        refine rX9_law_51 ?_
        simp only [bX9_law_51, run, Nat.reduceAdd, lg, st1, st2, lkill, lset, fvv, sfv, kind3, cat1, retI, retA, List.length_cons, List.length_nil, true_and, and_true, or_true, true_or, qX9_law, show bi false = 0 from rfl, not_true_eq_false, not_false_eq_true, false_implies, true_and, and_true, tti]
        exact bad2 (by rw [e3, e4]; rfl)
      | true =>
        refine rX9_law_51 ?_
        simp only [bX9_law_51, run, Nat.reduceAdd, lg, st1, st2, lkill, lset, fvv, sfv, kind3, cat1, retI, retA, List.length_cons, List.length_nil, true_and, and_true, or_true, true_or, qX9_law, show ¬ bi true = 0 by decide, not_true_eq_false, not_false_eq_true, false_implies, true_and, and_true, tti]
        refine sX9_law_59 (by decide) (e_refuseUnless (fun _ => ?_) fun q => absurd q (by decide))
        simp only [cont, Option.toList, List.cons_append, List.nil_append]
        have allok : (okS a1 && okB a2 && (inb a3 131072 && inb a4 131072)) = true := by rw [e12, e3, e4]; rfl
        refine rX9_law_62 ?_
        simp only [bX9_law_62, run, Nat.reduceAdd, lg, st1, st2, lkill, lset, fvv, sfv, kind3, cat1, retI, retA, List.length_cons, List.length_nil, true_and, and_true, or_true, true_or, qX9_law]
        refine sX9_law_64 hb.lgs.1 (e_lawsOf hb hl fun y a e ys hy1 ky ea ls el lw => ?_)
        simp only [cont, Option.toList, List.cons_append, List.nil_append]
        have bad3 : (l = 0 ∨ (D.2.2.1 l).length = 8) → Ex g mX9_law 87 [vR 4, vI (nI l), vI a1, vI a2, vI a3, vI a4, vR a] [] h (3, 18) Q := fun e => by
          refine rX9_law_87 ?_
          simp only [bX9_law_87, run, Nat.reduceAdd, lg, st1, st2, lkill, lset, fvv, sfv, kind3, cat1, retI, retA, List.length_cons, List.length_nil, true_and, and_true, or_true, true_or, qX9_law]
          exact sX9_law_88 (by decide) (e_requireState (fun q => absurd rfl q) fun _ n hn => hy l hl rfl allok e _ (Kp.bump hn) (bmp n hn))
        trace_state
        sorry
  refine rX9_law_8 ?_
  simp only [bX9_law_8, run, Nat.reduceAdd, lg, st1, st2, lkill, lset, fvv, sfv, kind3, cat1, retI, retA, List.length_cons, List.length_nil, true_and, and_true, or_true, true_or, qX9_law]
  refine ⟨fun q => bad1 (by simp [okS, q]), fun q => ⟨fun q2 => bad1 (by simp [okS, q2]), fun q2 => ⟨fun q3 => bad1 (by simp [okB, q3]), fun q3 => ⟨fun q4 => bad1 (by simp [okB, q4]), fun q4 => cont38 ?_⟩⟩⟩⟩
  simp only [okS, okB, q, q2, q3, q4, not_false_eq_true, decide_true, Bool.and_self]
