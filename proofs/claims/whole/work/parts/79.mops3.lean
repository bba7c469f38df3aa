theorem e_mlaw {g : Gp} {x a1 a2 a3 a4 : Int32} {h : AH} {Q : PQ} {f : Nat → Nat} {gv : Nat → List Nat} {op : Nat} {D : HD} (hf : ModR h f gv op D)
    (hq : ∀ l s b p q, l < D.1 → x = nI l → lwOk (s, b, p, q) → 1 ≤ s → a1 = nI s → a2 = bI b → a3 = nI p → a4 = nI q → 0 < l → (D.2.2.1 l).length < 8 → ∀ h', Mc h h' → ModR h' f gv op (setW D l (D.2.2.1 l ++ [(s, b, p, q)])) → zI h' 99 0 = 0 → Q (.inl (some (vI (nI ((D.2.2.1 l).length + 1))))) h')
    (hx : inb x D.1 = false → ∀ h', Ms h h' → zI h' 99 0 = 1 → Q (.inl (some (vI 0))) h')
    (hx2 : inb x D.1 = true → (okS a1 && okB a2 && (inb a3 131072 && inb a4 131072)) = false → ∀ h', Ms h h' → zI h' 99 0 = 2 → Q (.inl (some (vI 0))) h')
    (hy : ∀ l, l < D.1 → x = nI l → (okS a1 && okB a2 && (inb a3 131072 && inb a4 131072)) = true → (l = 0 ∨ (D.2.2.1 l).length = 8) → ∀ h', Ms h h' → zI h' 99 0 = 3 → Q (.inl (some (vI 0))) h') : Ev g mX10_law [vR 99, vI x, vI a1, vI a2, vI a3, vI a4] h Q := by
  refine nX10_law ?_
  refine Ex.wf (fun w => ?_)
  have h1 := hf.thr w (v := 0)
  have ms := h1.1
  have hD1 := h1.ok.2.1
  have e4 := h1.2.2.2.2.1.1
  refine rX10_law_0 ?_
  simp only [bX10_law_0, run, Nat.reduceAdd, lg, st1, st2, lkill, lset, fvv, sfv, kind3, cat1, retI, retA, List.length_cons, List.length_nil, true_and, and_true, or_true, true_or, qX10_law, hf.1.1, not_true_eq_false, not_false_eq_true, false_implies, true_and, and_true, tti]
  refine sX10_law_7 ms.1 (e_misLanguage ms e4 hD1 ?_)
  simp only [cont, Option.toList, List.cons_append, List.nil_append]
  cases e1 : inb x D.1 with
  | false =>
    refine rX10_law_10 ?_
    simp only [bX10_law_10, run, Nat.reduceAdd, lg, st1, st2, lkill, lset, fvv, sfv, kind3, cat1, retI, retA, List.length_cons, List.length_nil, true_and, and_true, or_true, true_or, qX10_law, show bi false = 0 from rfl, not_true_eq_false, not_false_eq_true, false_implies, true_and, and_true, tti]
    refine sX10_law_15 ms.1 (e_no ms ?_)
    simp only [cont, Option.toList, List.cons_append, List.nil_append]
    refine rX10_law_18 ?_
    simp only [bX10_law_18, run, Nat.reduceAdd, lg, st1, st2, lkill, lset, fvv, sfv, kind3, cat1, retI, retA, List.length_cons, List.length_nil, true_and, and_true, or_true, true_or, qX10_law]
    exact hx e1 _ (Ms.thr.tr Ms.thr) zI_thr
  | true =>
    have bad : (okS a1 && okB a2 && (inb a3 131072 && inb a4 131072)) = false → Ex g mX10_law 61 [vR 99, vI x, vI a1, vI a2, vI a3, vI a4, vU] [] (sI h 99 0 0) (0, 0) Q := fun e => by
      refine rX10_law_61 ?_
      simp only [bX10_law_61, run, Nat.reduceAdd, lg, st1, st2, lkill, lset, fvv, sfv, kind3, cat1, retI, retA, List.length_cons, List.length_nil, true_and, and_true, or_true, true_or, qX10_law]
      refine sX10_law_63 ms.1 (e_no ms ?_)
      simp only [cont, Option.toList, List.cons_append, List.nil_append]
      refine rX10_law_66 ?_
      simp only [bX10_law_66, run, Nat.reduceAdd, lg, st1, st2, lkill, lset, fvv, sfv, kind3, cat1, retI, retA, List.length_cons, List.length_nil, true_and, and_true, or_true, true_or, qX10_law]
      exact hx2 e1 e _ (Ms.thr.tr Ms.thr) zI_thr
    refine rX10_law_10 ?_
    simp only [bX10_law_10, run, Nat.reduceAdd, lg, st1, st2, lkill, lset, fvv, sfv, kind3, cat1, retI, retA, List.length_cons, List.length_nil, true_and, and_true, or_true, true_or, qX10_law, show ¬ bi true = 0 by decide, not_true_eq_false, not_false_eq_true, false_implies, true_and, and_true, tti]
    refine rX10_law_19 ?_
    simp only [bX10_law_19, run, Nat.reduceAdd, lg, st1, st2, lkill, lset, fvv, sfv, kind3, cat1, retI, retA, List.length_cons, List.length_nil, true_and, and_true, or_true, true_or, qX10_law]
    refine sX10_law_23 (e_isIn ?_)
    simp only [cont, Option.toList, List.cons_append, List.nil_append]
    rw [show (decide (¬ a1 < 1) && decide (¬ (65535 : Int32) < a1)) = okS a1 by unfold okS; rw [decide_eq_decide.mpr (not_congr (show (65535 : Int32) < a1 ↔ (65536 : Int32) ≤ a1 from hi_lt (n := 65535) (by decide)))]]
    cases c1 : okS a1 with
    | false =>
      refine rX10_law_26 ?_
      simp only [bX10_law_26, run, Nat.reduceAdd, lg, st1, st2, lkill, lset, fvv, sfv, kind3, cat1, retI, retA, List.length_cons, List.length_nil, true_and, and_true, or_true, true_or, qX10_law, show bi false = 0 from rfl, not_true_eq_false, not_false_eq_true, false_implies, true_and, and_true, tti]
      exact bad (by rw [c1]; rfl)
    | true =>
      refine rX10_law_26 ?_
      simp only [bX10_law_26, run, Nat.reduceAdd, lg, st1, st2, lkill, lset, fvv, sfv, kind3, cat1, retI, retA, List.length_cons, List.length_nil, true_and, and_true, or_true, true_or, qX10_law, show ¬ bi true = 0 by decide, not_true_eq_false, not_false_eq_true, false_implies, true_and, and_true, tti]
      refine sX10_law_33 (e_isIn ?_)
      simp only [cont, Option.toList, List.cons_append, List.nil_append]
      rw [show (decide (¬ a2 < -1) && decide (¬ (21 : Int32) < a2)) = okB a2 from rfl]
      cases c2 : okB a2 with
      | false =>
        refine rX10_law_36 ?_
        simp only [bX10_law_36, run, Nat.reduceAdd, lg, st1, st2, lkill, lset, fvv, sfv, kind3, cat1, retI, retA, List.length_cons, List.length_nil, true_and, and_true, or_true, true_or, qX10_law, show bi false = 0 from rfl, not_true_eq_false, not_false_eq_true, false_implies, true_and, and_true, tti]
        exact bad (by rw [c1, c2]; rfl)
      | true =>
        refine rX10_law_36 ?_
        simp only [bX10_law_36, run, Nat.reduceAdd, lg, st1, st2, lkill, lset, fvv, sfv, kind3, cat1, retI, retA, List.length_cons, List.length_nil, true_and, and_true, or_true, true_or, qX10_law, show ¬ bi true = 0 by decide, not_true_eq_false, not_false_eq_true, false_implies, true_and, and_true, tti]
        refine sX10_law_44 (e_isInB (n := 131071) (by decide) ?_)
        simp only [cont, Option.toList, List.cons_append, List.nil_append]
        cases c3 : inb a3 131072 with
        | false =>
          refine rX10_law_47 ?_
          simp only [bX10_law_47, run, Nat.reduceAdd, lg, st1, st2, lkill, lset, fvv, sfv, kind3, cat1, retI, retA, List.length_cons, List.length_nil, true_and, and_true, or_true, true_or, qX10_law, show bi false = 0 from rfl, not_true_eq_false, not_false_eq_true, false_implies, true_and, and_true, tti]
          exact bad (by rw [c1, c2, c3]; rfl)
        | true =>
          refine rX10_law_47 ?_
          simp only [bX10_law_47, run, Nat.reduceAdd, lg, st1, st2, lkill, lset, fvv, sfv, kind3, cat1, retI, retA, List.length_cons, List.length_nil, true_and, and_true, or_true, true_or, qX10_law, show ¬ bi true = 0 by decide, not_true_eq_false, not_false_eq_true, false_implies, true_and, and_true, tti]
          refine sX10_law_55 (e_isInB (n := 131071) (by decide) ?_)
          simp only [cont, Option.toList, List.cons_append, List.nil_append]
          cases c4 : inb a4 131072 with
          | false =>
            refine rX10_law_58 ?_
            simp only [bX10_law_58, run, Nat.reduceAdd, lg, st1, st2, lkill, lset, fvv, sfv, kind3, cat1, retI, retA, List.length_cons, List.length_nil, true_and, and_true, or_true, true_or, qX10_law, show bi false = 0 from rfl, not_true_eq_false, not_false_eq_true, false_implies, true_and, and_true, tti]
            refine sX10_law_63 ms.1 (e_no ms ?_)
            simp only [cont, Option.toList, List.cons_append, List.nil_append]
            refine rX10_law_66 ?_
            simp only [bX10_law_66, run, Nat.reduceAdd, lg, st1, st2, lkill, lset, fvv, sfv, kind3, cat1, retI, retA, List.length_cons, List.length_nil, true_and, and_true, or_true, true_or, qX10_law]
            exact hx2 e1 (by rw [c1, c2, c3, c4]; rfl) _ (Ms.thr.tr Ms.thr) zI_thr
          | true =>
            obtain ⟨l, hl, rfl⟩ := inb_t (by omega) e1
            have hy' := hy l hl rfl (by rw [c1, c2, c3, c4]; rfl)
            have l8 := h1.ok.2.2.2.1 l hl
            have kl : (nI l).toNatClampNeg = l := nI_clamp (by omega)
            have vl := vp_in_nI (show l < 10 by omega) (by omega : 10 < 2 ^ 31)
            have c0 := (h1.2.2.2.2.1.2.2.2.1 l hl).1
            refine rX10_law_58 ?_
            simp only [bX10_law_58, run, Nat.reduceAdd, lg, st1, st2, lkill, lset, fvv, sfv, kind3, cat1, retI, retA, List.length_cons, List.length_nil, true_and, and_true, or_true, true_or, qX10_law, show ¬ bi true = 0 by decide, not_true_eq_false, not_false_eq_true, false_implies, true_and, and_true, tti]
            by_cases e0 : l = 0
            · refine rX10_law_67 ?_
              simp only [bX10_law_67, run, Nat.reduceAdd, lg, st1, st2, lkill, lset, fvv, sfv, kind3, cat1, retI, retA, List.length_cons, List.length_nil, true_and, and_true, or_true, true_or, qX10_law, show nI l = 0 ↔ True from ⟨fun _ => trivial, fun _ => by rw [e0]; rfl⟩, not_true_eq_false, not_false_eq_true, false_implies, true_and, and_true, tti]
              refine rX10_law_82 ?_
              simp only [bX10_law_82, run, Nat.reduceAdd, lg, st1, st2, lkill, lset, fvv, sfv, kind3, cat1, retI, retA, List.length_cons, List.length_nil, true_and, and_true, or_true, true_or, qX10_law]
              refine sX10_law_84 ms.1 (e_no ms ?_)
              simp only [cont, Option.toList, List.cons_append, List.nil_append]
              refine rX10_law_87 ?_
              simp only [bX10_law_87, run, Nat.reduceAdd, lg, st1, st2, lkill, lset, fvv, sfv, kind3, cat1, retI, retA, List.length_cons, List.length_nil, true_and, and_true, or_true, true_or, qX10_law]
              exact hy' (Or.inl e0) _ (Ms.thr.tr Ms.thr) zI_thr
            · have ne : nI l = 0 ↔ False := ⟨fun q => e0 ((nI_eq (b := 0) (by omega) (by omega)).mp q), False.elim⟩
              by_cases e8 : (D.2.2.1 l).length = 8
              · refine rX10_law_67 ?_
                simp only [bX10_law_67, run, Nat.reduceAdd, lg, st1, st2, lkill, lset, fvv, sfv, kind3, cat1, retI, retA, List.length_cons, List.length_nil, true_and, and_true, or_true, true_or, qX10_law, ne, ms.1, ms.R6, ms.K103, kl, c0, e8, show nI 8 = 8 from rfl, not_true_eq_false, not_false_eq_true, false_implies, true_and, and_true, tti]
                refine ⟨vl, sX10_law_84 ms.1 (e_no ms ?_)⟩
                simp only [cont, Option.toList, List.cons_append, List.nil_append]
                refine rX10_law_87 ?_
                simp only [bX10_law_87, run, Nat.reduceAdd, lg, st1, st2, lkill, lset, fvv, sfv, kind3, cat1, retI, retA, List.length_cons, List.length_nil, true_and, and_true, or_true, true_or, qX10_law]
                exact hy' (Or.inr e8) _ (Ms.thr.tr Ms.thr) zI_thr
              · obtain ⟨s, s1, s2, rfl⟩ := okS_t c1
                obtain ⟨b, b1, rfl⟩ := okB_t c2
                obtain ⟨p, p1, rfl⟩ := inb_t (by decide) c3
                obtain ⟨q, q1, rfl⟩ := inb_t (by decide) c4
                generalize hn : (D.2.2.1 l).length = n at c0 l8 e8
                have kk : (nI (l * 8 + n)).toNatClampNeg = l * 8 + n := nI_clamp (by omega)
                have vk := vp_in_nI (show l * 8 + n < 80 by omega) (by omega : 80 < 2 ^ 31)
                have z := hq l s b p q hl rfl ⟨s2, b1, p1, q1⟩ s1 rfl rfl rfl rfl (by omega) (by omega) (sI (sI (sI (sI (sI (sI h 99 0 0) 104 (l * 8 + n) (nI s)) 105 (l * 8 + n) (bI b)) 106 (l * 8 + n) (nI p)) 107 (l * 8 + n) (nI q)) 103 l (nI (n + 1))) (((((Mc.thr.tr (Kp.sI (by omega))).tr (Kp.sI (by omega))).tr (Kp.sI (by omega))).tr (Kp.sI (by omega))).tr (Kp.sI (by omega))) ?_ (by rw [zI_n (by decide), zI_n (by decide), zI_n (by decide), zI_n (by decide), zI_n (by decide)]; exact zI_thr)
                · rw [hn] at z
                  refine rX10_law_67 ?_
                  simp only [bX10_law_67, run, Nat.reduceAdd, lg, st1, st2, lkill, lset, fvv, sfv, kind3, cat1, retI, retA, List.length_cons, List.length_nil, true_and, and_true, or_true, true_or, qX10_law, ne, ms.1, ms.R6, ms.K103, kl, c0, show nI n = 8 ↔ False from ⟨fun q => e8 ((nI_eq (b := 8) (by omega) (by omega)).mp q), False.elim⟩, not_true_eq_false, not_false_eq_true, false_implies, true_and, and_true, tti]
                  refine ⟨vl, ?_⟩
                  refine rX10_law_88 ?_
                  simp only [bX10_law_88, run, Nat.reduceAdd, lg, st1, st2, lkill, lset, fvv, sfv, kind3, cat1, retI, retA, List.length_cons, List.length_nil, true_and, and_true, or_true, true_or, qX10_law, kL, kI, kD, kR, rL, rI, rD, iL, iD, iR, lI, lD, lR, mk_8, ms.1, ms.R6, ms.K103, ms.R7, ms.K104, ms.R8, ms.K105, ms.R9, ms.K106, ms.R10, ms.K107, kl, kk, c0, zI_n (show 103 ≠ 104 by decide), zI_n (show 103 ≠ 105 by decide), zI_n (show 103 ≠ 106 by decide), zI_n (show 103 ≠ 107 by decide), nI_1, not_true_eq_false, not_false_eq_true, false_implies, true_and, and_true, tti]
                  exact ⟨vl, vk, vk, vk, vk, vl, vl, z⟩
                · obtain ⟨x1, x2, x3, x4, ⟨z1, z2, z3, z4, z5⟩, x6, x7, x8⟩ := h1
                  generalize hH : sI (sI (sI (sI (sI (sI h 99 0 0) 104 (l * 8 + n) (nI s)) 105 (l * 8 + n) (bI b)) 106 (l * 8 + n) (nI p)) 107 (l * 8 + n) (nI q)) 103 l (nI (n + 1)) = h2
                  have r : ∀ a, ¬ (103 ≤ a ∧ a ≤ 107) → zI h2 a = zI (sI h 99 0 0) a := fun a q => by rw [← hH, zI_n (by omega), zI_n (by omega), zI_n (by omega), zI_n (by omega), zI_n (by omega)]
                  have r3 : zI h2 103 = up1 (zI (sI h 99 0 0) 103) l (nI (n + 1)) := by rw [← hH, zI_sI, zI_n (by decide), zI_n (by decide), zI_n (by decide), zI_n (by decide)]
                  have r4 : zI h2 104 = up1 (zI (sI h 99 0 0) 104) (l * 8 + n) (nI s) := by rw [← hH, zI_n (by decide), zI_n (by decide), zI_n (by decide), zI_n (by decide), zI_sI]
                  have r5 : zI h2 105 = up1 (zI (sI h 99 0 0) 105) (l * 8 + n) (bI b) := by rw [← hH, zI_n (by decide), zI_n (by decide), zI_n (by decide), zI_sI, zI_n (by decide)]
                  have r6 : zI h2 106 = up1 (zI (sI h 99 0 0) 106) (l * 8 + n) (nI p) := by rw [← hH, zI_n (by decide), zI_n (by decide), zI_sI, zI_n (by decide), zI_n (by decide)]
                  have r7 : zI h2 107 = up1 (zI (sI h 99 0 0) 107) (l * 8 + n) (nI q) := by rw [← hH, zI_n (by decide), zI_sI, zI_n (by decide), zI_n (by decide), zI_n (by decide)]
                  have x1' : ModS h2 := by rw [← hH]; exact x1
                  have x4' : GvM h2 gv := by rw [← hH]; exact x4
                  refine ⟨x1', by rw [r 99 (by omega)]; exact x2, by unfold SnM; rw [r 100 (by omega)]; exact x3, x4', ⟨by rw [r 99 (by omega)]; exact z1, by rw [r 99 (by omega)]; exact z2, by rw [r 102 (by omega)]; exact z3, fun k q => ?_, ?_⟩, ?_, by rw [r 112 (by omega)]; exact x7, setW_ok x8 (by simp; omega)⟩
                  · change k < D.1 at q
                    have k8 := x8.2.2.2.1 k q
                    unfold LwM
                    rw [r3, r4, r5, r6, r7]
                    rw [show (setW D l (D.2.2.1 l ++ [(s, b, p, _)])).2.2.1 k = if k = l then D.2.2.1 l ++ [(s, b, p, _)] else D.2.2.1 k from rfl]
                    by_cases e : k = l
                    · subst e
                      rw [if_pos rfl, up1_s, List.length_append, hn]
                      refine ⟨rfl, fun i hi => ?_⟩
                      rw [getD_snocG, hn]
                      by_cases ei : i = n
                      · subst ei
                        rw [if_pos rfl, up1_s, up1_s, up1_s, up1_s]
                        exact ⟨⟨s2, b1, p1, q1⟩, rfl, rfl, rfl, rfl⟩
                      · have hi2 : i < n + 1 := hi
                        rw [if_neg ei, up1_n _ _ (by omega), up1_n _ _ (by omega), up1_n _ _ (by omega), up1_n _ _ (by omega)]
                        exact (z4 k q).2 i (by omega)
                    · rw [if_neg e, up1_n _ _ e]
                      refine ⟨(z4 k q).1, fun i hi => ?_⟩
                      rw [up1_n _ _ (by omega), up1_n _ _ (by omega), up1_n _ _ (by omega), up1_n _ _ (by omega)]
                      exact (z4 k q).2 i hi
                  · unfold LnM
                    rw [r 108 (by omega), r 109 (by omega), r 110 (by omega), r 111 (by omega), r 112 (by omega)]
                    exact z5
                  · intro k q1 q2
                    change D.1 ≤ k at q1
                    rw [r3, up1_n _ _ (by omega)]
                    exact x6 k q1 q2
theorem e_mloan {g : Gp} {a0 a1 a2 a3 : Int32} {h : AH} {Q : PQ} {f : Nat → Nat} {gv : Nat → List Nat} {op : Nat} {D : HD} (hf : ModR h f gv op D)
    (hq : ∀ m l k t, m < 12 → l < k → k < D.1 → t ≤ 8 → a0 = nI m → a1 = nI l → a2 = nI k → a3 = nI t → D.2.2.2.length < 12 → ∀ h', Mc h h' → ModR h' f gv op (addN D (m, l, k, t)) → zI h' 99 0 = 0 → Q (.inl (some (vI (nI D.2.2.2.length)))) h')
    (hx : (inb a1 D.1 && inb a2 D.1) = false → ∀ h', Ms h h' → zI h' 99 0 = 1 → Q (.inl (some (vI 0))) h')
    (hx2 : (inb a1 D.1 && inb a2 D.1) = true → (inb a0 12 && (decide (a1 < a2) && okM a3)) = false → ∀ h', Ms h h' → zI h' 99 0 = 2 → Q (.inl (some (vI 0))) h')
    (hy : (inb a1 D.1 && inb a2 D.1) = true → (inb a0 12 && (decide (a1 < a2) && okM a3)) = true → D.2.2.2.length = 12 → ∀ h', Ms h h' → zI h' 99 0 = 3 → Q (.inl (some (vI 0))) h') : Ev g mX10_loan [vR 99, vI a0, vI a1, vI a2, vI a3] h Q := by
  refine nX10_loan ?_
  refine Ex.wf (fun w => ?_)
  have h1 := hf.thr w (v := 0)
  have ms := h1.1
  have hD := h1.ok
  have hD1 := hD.2.1
  have e4 := h1.2.2.2.2.1.1
  have e11 := h1.2.2.2.2.1.2.1
  have bad1 : (inb a1 D.1 && inb a2 D.1) = false → Ex g mX10_loan 21 [vR 99, vI a0, vI a1, vI a2, vI a3] [] (sI h 99 0 0) (0, 0) Q := fun e => by
    refine rX10_loan_21 ?_
    simp only [bX10_loan_21, run, Nat.reduceAdd, lg, st1, st2, lkill, lset, fvv, sfv, kind3, cat1, retI, retA, List.length_cons, List.length_nil, true_and, and_true, or_true, true_or, qX10_loan]
    refine sX10_loan_23 ms.1 (e_no ms ?_)
    simp only [cont, Option.toList, List.cons_append, List.nil_append]
    refine rX10_loan_26 ?_
    simp only [bX10_loan_26, run, Nat.reduceAdd, lg, st1, st2, lkill, lset, fvv, sfv, kind3, cat1, retI, retA, List.length_cons, List.length_nil, true_and, and_true, or_true, true_or, qX10_loan]
    exact hx e _ (Ms.thr.tr Ms.thr) zI_thr
  refine rX10_loan_0 ?_
  simp only [bX10_loan_0, run, Nat.reduceAdd, lg, st1, st2, lkill, lset, fvv, sfv, kind3, cat1, retI, retA, List.length_cons, List.length_nil, true_and, and_true, or_true, true_or, qX10_loan, hf.1.1, not_true_eq_false, not_false_eq_true, false_implies, true_and, and_true, tti]
  refine sX10_loan_7 ms.1 (e_misLanguage ms e4 hD1 ?_)
  simp only [cont, Option.toList, List.cons_append, List.nil_append]
  cases e1 : inb a1 D.1 with
  | false =>
    refine rX10_loan_10 ?_
    simp only [bX10_loan_10, run, Nat.reduceAdd, lg, st1, st2, lkill, lset, fvv, sfv, kind3, cat1, retI, retA, List.length_cons, List.length_nil, true_and, and_true, or_true, true_or, qX10_loan, show bi false = 0 from rfl, not_true_eq_false, not_false_eq_true, false_implies, true_and, and_true, tti]
    exact bad1 (by rw [e1]; rfl)
  | true =>
    refine rX10_loan_10 ?_
    simp only [bX10_loan_10, run, Nat.reduceAdd, lg, st1, st2, lkill, lset, fvv, sfv, kind3, cat1, retI, retA, List.length_cons, List.length_nil, true_and, and_true, or_true, true_or, qX10_loan, show ¬ bi true = 0 by decide, not_true_eq_false, not_false_eq_true, false_implies, true_and, and_true, tti]
    refine sX10_loan_15 ms.1 (e_misLanguage ms e4 hD1 ?_)
    simp only [cont, Option.toList, List.cons_append, List.nil_append]
    cases e2 : inb a2 D.1 with
    | false =>
      refine rX10_loan_18 ?_
      simp only [bX10_loan_18, run, Nat.reduceAdd, lg, st1, st2, lkill, lset, fvv, sfv, kind3, cat1, retI, retA, List.length_cons, List.length_nil, true_and, and_true, or_true, true_or, qX10_loan, show bi false = 0 from rfl, not_true_eq_false, not_false_eq_true, false_implies, true_and, and_true, tti]
      refine sX10_loan_23 ms.1 (e_no ms ?_)
      simp only [cont, Option.toList, List.cons_append, List.nil_append]
      refine rX10_loan_26 ?_
      simp only [bX10_loan_26, run, Nat.reduceAdd, lg, st1, st2, lkill, lset, fvv, sfv, kind3, cat1, retI, retA, List.length_cons, List.length_nil, true_and, and_true, or_true, true_or, qX10_loan]
      exact hx (by rw [e1, e2]; rfl) _ (Ms.thr.tr Ms.thr) zI_thr
    | true =>
      have e12 : (inb a1 D.1 && inb a2 D.1) = true := by rw [e1, e2]; rfl
      have bad2 : (inb a0 12 && (decide (a1 < a2) && okM a3)) = false → Ex g mX10_loan 50 [vR 99, vI a0, vI a1, vI a2, vI a3] [] (sI h 99 0 0) (0, 0) Q := fun e => by
        refine rX10_loan_50 ?_
        simp only [bX10_loan_50, run, Nat.reduceAdd, lg, st1, st2, lkill, lset, fvv, sfv, kind3, cat1, retI, retA, List.length_cons, List.length_nil, true_and, and_true, or_true, true_or, qX10_loan]
        refine sX10_loan_52 ms.1 (e_no ms ?_)
        simp only [cont, Option.toList, List.cons_append, List.nil_append]
        refine rX10_loan_55 ?_
        simp only [bX10_loan_55, run, Nat.reduceAdd, lg, st1, st2, lkill, lset, fvv, sfv, kind3, cat1, retI, retA, List.length_cons, List.length_nil, true_and, and_true, or_true, true_or, qX10_loan]
        exact hx2 e12 e _ (Ms.thr.tr Ms.thr) zI_thr
      refine rX10_loan_18 ?_
      simp only [bX10_loan_18, run, Nat.reduceAdd, lg, st1, st2, lkill, lset, fvv, sfv, kind3, cat1, retI, retA, List.length_cons, List.length_nil, true_and, and_true, or_true, true_or, qX10_loan, show ¬ bi true = 0 by decide, not_true_eq_false, not_false_eq_true, false_implies, true_and, and_true, tti]
      refine rX10_loan_27 ?_
      simp only [bX10_loan_27, run, Nat.reduceAdd, lg, st1, st2, lkill, lset, fvv, sfv, kind3, cat1, retI, retA, List.length_cons, List.length_nil, true_and, and_true, or_true, true_or, qX10_loan]
      refine sX10_loan_28 (e_misMeaning ?_)
      simp only [cont, Option.toList, List.cons_append, List.nil_append]
      cases e3 : inb a0 12 with
      | false =>
        refine rX10_loan_31 ?_
        simp only [bX10_loan_31, run, Nat.reduceAdd, lg, st1, st2, lkill, lset, fvv, sfv, kind3, cat1, retI, retA, List.length_cons, List.length_nil, true_and, and_true, or_true, true_or, qX10_loan, show bi false = 0 from rfl, not_true_eq_false, not_false_eq_true, false_implies, true_and, and_true, tti]
        exact bad2 (by rw [e3]; rfl)
      | true =>
        by_cases e5 : a1 < a2
        · refine rX10_loan_31 ?_
          simp only [bX10_loan_31, run, Nat.reduceAdd, lg, st1, st2, lkill, lset, fvv, sfv, kind3, cat1, retI, retA, List.length_cons, List.length_nil, true_and, and_true, or_true, true_or, qX10_loan, show ¬ bi true = 0 by decide, show a2 ≤ a1 ↔ False from ⟨fun q => Int32.not_le.mpr e5 q, False.elim⟩, not_true_eq_false, not_false_eq_true, false_implies, true_and, and_true, tti]
          refine sX10_loan_44 (e_isIn ?_)
          simp only [cont, Option.toList, List.cons_append, List.nil_append]
          rw [show (decide (¬ a3 < 0) && decide (¬ (8 : Int32) < a3)) = okM a3 from rfl]
          cases e6 : okM a3 with
          | false =>
            refine rX10_loan_47 ?_
            simp only [bX10_loan_47, run, Nat.reduceAdd, lg, st1, st2, lkill, lset, fvv, sfv, kind3, cat1, retI, retA, List.length_cons, List.length_nil, true_and, and_true, or_true, true_or, qX10_loan, show bi false = 0 from rfl, not_true_eq_false, not_false_eq_true, false_implies, true_and, and_true, tti]
            refine sX10_loan_52 ms.1 (e_no ms ?_)
            simp only [cont, Option.toList, List.cons_append, List.nil_append]
            refine rX10_loan_55 ?_
            simp only [bX10_loan_55, run, Nat.reduceAdd, lg, st1, st2, lkill, lset, fvv, sfv, kind3, cat1, retI, retA, List.length_cons, List.length_nil, true_and, and_true, or_true, true_or, qX10_loan]
            exact hx2 e12 (by rw [e3, e6, decide_eq_true e5]; rfl) _ (Ms.thr.tr Ms.thr) zI_thr
          | true =>
            have eG : (inb a0 12 && (decide (a1 < a2) && okM a3)) = true := by rw [e3, e6, decide_eq_true e5]; rfl
            have h5 := hD.2.2.2.2.1
            refine rX10_loan_47 ?_
            simp only [bX10_loan_47, run, Nat.reduceAdd, lg, st1, st2, lkill, lset, fvv, sfv, kind3, cat1, retI, retA, List.length_cons, List.length_nil, true_and, and_true, or_true, true_or, qX10_loan, show ¬ bi true = 0 by decide, not_true_eq_false, not_false_eq_true, false_implies, true_and, and_true, tti]
            by_cases e7 : D.2.2.2.length = 12
            · refine rX10_loan_56 ?_
              simp only [bX10_loan_56, run, Nat.reduceAdd, lg, st1, st2, lkill, lset, fvv, sfv, kind3, cat1, retI, retA, List.length_cons, List.length_nil, true_and, and_true, or_true, true_or, qX10_loan, ms.1, e11, e7, show nI 12 = 12 from rfl, not_true_eq_false, not_false_eq_true, false_implies, true_and, and_true, tti]
              refine sX10_loan_67 ms.1 (e_no ms ?_)
              simp only [cont, Option.toList, List.cons_append, List.nil_append]
              refine rX10_loan_70 ?_
              simp only [bX10_loan_70, run, Nat.reduceAdd, lg, st1, st2, lkill, lset, fvv, sfv, kind3, cat1, retI, retA, List.length_cons, List.length_nil, true_and, and_true, or_true, true_or, qX10_loan]
              exact hy e12 eG e7 _ (Ms.thr.tr Ms.thr) zI_thr
            · obtain ⟨l, hl, rfl⟩ := inb_t (by omega) e1
              obtain ⟨k, hk, rfl⟩ := inb_t (by omega) e2
              obtain ⟨m, hm, rfl⟩ := inb_t (by omega) e3
              obtain ⟨t, ht, rfl⟩ := okM_t e6
              have lk := (nI_ltI (by omega) (by omega)).mp e5
              generalize hn : D.2.2.2.length = n at e11 h5 e7
              have kk : (nI n).toNatClampNeg = n := nI_clamp (by omega)
              have vk := vp_in_nI (show n < 12 by omega) (by omega : 12 < 2 ^ 31)
              have z := hq m l k t hm lk hk ht rfl rfl rfl rfl (by omega) (sI (sI (sI (sI (sI (sI h 99 0 0) 108 n (nI m)) 109 n (nI l)) 110 n (nI k)) 111 n (nI t)) 99 11 (nI (n + 1))) (((((Mc.thr.tr (Kp.sI (by omega))).tr (Kp.sI (by omega))).tr (Kp.sI (by omega))).tr (Kp.sI (by omega))).tr (Kp.sI (by omega))) ?_ (by rw [zI_sI, up1_n _ _ (by decide), zI_n (by decide), zI_n (by decide), zI_n (by decide), zI_n (by decide)]; exact zI_thr)
              · rw [hn] at z
                refine rX10_loan_56 ?_
                simp only [bX10_loan_56, run, Nat.reduceAdd, lg, st1, st2, lkill, lset, fvv, sfv, kind3, cat1, retI, retA, List.length_cons, List.length_nil, true_and, and_true, or_true, true_or, qX10_loan, ms.1, e11, show nI n = 12 ↔ False from ⟨fun q => e7 ((nI_eq (b := 12) (by omega) (by omega)).mp q), False.elim⟩, not_true_eq_false, not_false_eq_true, false_implies, true_and, and_true, tti]
                refine rX10_loan_71 ?_
                simp only [bX10_loan_71, run, Nat.reduceAdd, lg, st1, st2, lkill, lset, fvv, sfv, kind3, cat1, retI, retA, List.length_cons, List.length_nil, true_and, and_true, or_true, true_or, qX10_loan, kL, kI, kD, kR, rL, rI, rD, iL, iD, iR, lI, lD, lR, ms.1, e11, ms.R12, ms.K108, ms.R13, ms.K109, ms.R14, ms.K110, ms.R15, ms.K111, kk, zI_n (show 99 ≠ 108 by decide), zI_n (show 99 ≠ 109 by decide), zI_n (show 99 ≠ 110 by decide), zI_n (show 99 ≠ 111 by decide), nI_1, not_true_eq_false, not_false_eq_true, false_implies, true_and, and_true, tti]
                exact ⟨vk, vk, vk, vk, z⟩
              · obtain ⟨x1, x2, x3, x4, ⟨z1, z2, z3, z4, z5⟩, x6, x7, x8⟩ := h1
                generalize hH : sI (sI (sI (sI (sI (sI h 99 0 0) 108 n (nI m)) 109 n (nI l)) 110 n (nI k)) 111 n (nI t)) 99 11 (nI (n + 1)) = h2
                have r : ∀ a, ¬ (108 ≤ a ∧ a ≤ 111) → a ≠ 99 → zI h2 a = zI (sI h 99 0 0) a := fun a q q2 => by rw [← hH, zI_n (by omega), zI_n (by omega), zI_n (by omega), zI_n (by omega), zI_n (by omega)]
                have r9 : ∀ j, j ≠ 11 → zI h2 99 j = zI (sI h 99 0 0) 99 j := fun j q => by rw [← hH, zI_sI, up1_n _ _ q, zI_n (by decide), zI_n (by decide), zI_n (by decide), zI_n (by decide)]
                have r8 : zI h2 108 = up1 (zI (sI h 99 0 0) 108) n (nI m) := by rw [← hH, zI_n (by decide), zI_n (by decide), zI_n (by decide), zI_n (by decide), zI_sI]
                have ra : zI h2 109 = up1 (zI (sI h 99 0 0) 109) n (nI l) := by rw [← hH, zI_n (by decide), zI_n (by decide), zI_n (by decide), zI_sI, zI_n (by decide)]
                have rb : zI h2 110 = up1 (zI (sI h 99 0 0) 110) n (nI k) := by rw [← hH, zI_n (by decide), zI_n (by decide), zI_sI, zI_n (by decide), zI_n (by decide)]
                have rc : zI h2 111 = up1 (zI (sI h 99 0 0) 111) n (nI t) := by rw [← hH, zI_n (by decide), zI_sI, zI_n (by decide), zI_n (by decide), zI_n (by decide)]
                have rd : zI h2 99 11 = nI (n + 1) := by rw [← hH, zI_sI, up1_s]
                have x1' : ModS h2 := by rw [← hH]; exact x1
                have x4' : GvM h2 gv := by rw [← hH]; exact x4
                refine ⟨x1', by rw [r9 3 (by decide)]; exact x2, by unfold SnM; rw [r 100 (by omega) (by decide)]; exact x3, x4', ⟨by rw [r9 4 (by decide)]; exact z1, ?_, by rw [r 102 (by omega) (by decide)]; exact z3, ?_, ?_⟩, ?_, by rw [r 112 (by omega) (by decide)]; exact x7, addN_ok x8 (by omega) ⟨hm, lk, hk, ht⟩⟩
                · rw [rd]
                  show _ = nI (D.2.2.2 ++ [(m, l, k, t)]).length
                  rw [List.length_append, hn]
                  rfl
                · unfold LwM
                  rw [r 103 (by omega) (by decide), r 104 (by omega) (by decide), r 105 (by omega) (by decide), r 106 (by omega) (by decide), r 107 (by omega) (by decide)]
                  exact z4
                · intro i hi
                  change i < (D.2.2.2 ++ [(m, l, k, t)]).length at hi
                  rw [List.length_append, hn] at hi
                  rw [show (addN D (m, l, k, t)).2.2.2 = D.2.2.2 ++ [(m, l, k, t)] from rfl, getD_snocG, hn]
                  unfold LnM
                  rw [r 112 (by omega) (by decide), r8, ra, rb, rc]
                  by_cases ei : i = n
                  · subst ei
                    rw [if_pos rfl, up1_s, up1_s, up1_s, up1_s]
                    exact Or.inl ⟨x7 i (by omega), rfl, rfl, rfl, rfl, hm, by show l < 10; omega, by show k < 10; omega, ht⟩
                  · have hi2 : i < n + 1 := hi
                    rw [if_neg ei, up1_n _ _ ei, up1_n _ _ ei, up1_n _ _ ei, up1_n _ _ ei]
                    exact z5 i (by omega)
                · intro k q1 q2
                  rw [r 103 (by omega) (by decide)]
                  exact x6 k q1 q2
        · refine rX10_loan_31 ?_
          simp only [bX10_loan_31, run, Nat.reduceAdd, lg, st1, st2, lkill, lset, fvv, sfv, kind3, cat1, retI, retA, List.length_cons, List.length_nil, true_and, and_true, or_true, true_or, qX10_loan, show ¬ bi true = 0 by decide, show a2 ≤ a1 ↔ True from ⟨fun _ => trivial, fun _ => Int32.not_lt.mp e5⟩, not_true_eq_false, not_false_eq_true, false_implies, true_and, and_true, tti]
          exact bad2 (by rw [e3, decide_eq_false e5]; rfl)
