/-! ===== the model's calls: languages, laws, loans ===== -/
theorem e_mlanguages {g : Gp} {h : AH} {Q : PQ} {f : Nat → Nat} {gv : Nat → List Nat} {op : Nat} {D : HD} (hf : ModR h f gv op D) (hq : ∀ h', Ms h h' → zI h' 99 0 = 0 → Q (.inl (some (vI (nI D.1)))) h') : Ev g mX10_languages [vR 99] h Q := by
  refine nX10_languages ?_
  refine rX10_languages_0 ?_
  simp only [bX10_languages_0, run, Nat.reduceAdd, lg, st1, st2, lkill, lset, fvv, sfv, kind3, cat1, retI, retA, List.length_cons, List.length_nil, true_and, and_true, or_true, true_or, qX10_languages, hf.1.1, hf.2.2.2.2.1.1, not_true_eq_false, not_false_eq_true, false_implies, true_and, and_true, tti]
  refine sX10_languages_5 hf.1.1 (e_ok hf.1 ?_)
  simp only [cont, Option.toList, List.cons_append, List.nil_append]
  refine rX10_languages_8 ?_
  simp only [bX10_languages_8, run, Nat.reduceAdd, lg, st1, st2, lkill, lset, fvv, sfv, kind3, cat1, retI, retA, List.length_cons, List.length_nil, true_and, and_true, or_true, true_or, qX10_languages]
  exact hq _ Ms.thr zI_thr
theorem e_mloans {g : Gp} {h : AH} {Q : PQ} {f : Nat → Nat} {gv : Nat → List Nat} {op : Nat} {D : HD} (hf : ModR h f gv op D) (hq : ∀ h', Ms h h' → zI h' 99 0 = 0 → Q (.inl (some (vI (nI D.2.2.2.length)))) h') : Ev g mX10_loans [vR 99] h Q := by
  refine nX10_loans ?_
  refine rX10_loans_0 ?_
  simp only [bX10_loans_0, run, Nat.reduceAdd, lg, st1, st2, lkill, lset, fvv, sfv, kind3, cat1, retI, retA, List.length_cons, List.length_nil, true_and, and_true, or_true, true_or, qX10_loans, hf.1.1, hf.2.2.2.2.1.2.1, not_true_eq_false, not_false_eq_true, false_implies, true_and, and_true, tti]
  refine sX10_loans_5 hf.1.1 (e_ok hf.1 ?_)
  simp only [cont, Option.toList, List.cons_append, List.nil_append]
  refine rX10_loans_8 ?_
  simp only [bX10_loans_8, run, Nat.reduceAdd, lg, st1, st2, lkill, lset, fvv, sfv, kind3, cat1, retI, retA, List.length_cons, List.length_nil, true_and, and_true, or_true, true_or, qX10_loans]
  exact hq _ Ms.thr zI_thr
theorem e_mlaws {g : Gp} {x : Int32} {h : AH} {Q : PQ} {f : Nat → Nat} {gv : Nat → List Nat} {op : Nat} {D : HD} (hf : ModR h f gv op D)
    (hq : ∀ l, l < D.1 → x = nI l → ∀ h', Ms h h' → zI h' 99 0 = 0 → Q (.inl (some (vI (nI (D.2.2.1 l).length)))) h')
    (hx : inb x D.1 = false → ∀ h', Ms h h' → zI h' 99 0 = 1 → Q (.inl (some (vI 0))) h') : Ev g mX10_laws [vR 99, vI x] h Q := by
  refine nX10_laws ?_
  refine Ex.wf (fun w => ?_)
  have h1 := hf.thr w (v := 0)
  have ms := h1.1
  have hD1 := h1.ok.2.1
  refine rX10_laws_0 ?_
  simp only [bX10_laws_0, run, Nat.reduceAdd, lg, st1, st2, lkill, lset, fvv, sfv, kind3, cat1, retI, retA, List.length_cons, List.length_nil, true_and, and_true, or_true, true_or, qX10_laws, hf.1.1, not_true_eq_false, not_false_eq_true, false_implies, true_and, and_true, tti]
  refine sX10_laws_7 ms.1 (e_misLanguage ms h1.2.2.2.2.1.1 hD1 ?_)
  simp only [cont, Option.toList, List.cons_append, List.nil_append]
  cases e1 : inb x D.1 with
  | false =>
    refine rX10_laws_10 ?_
    simp only [bX10_laws_10, run, Nat.reduceAdd, lg, st1, st2, lkill, lset, fvv, sfv, kind3, cat1, retI, retA, List.length_cons, List.length_nil, true_and, and_true, or_true, true_or, qX10_laws, show bi false = 0 from rfl, not_true_eq_false, not_false_eq_true, false_implies, true_and, and_true, tti]
    refine rX10_laws_22 ?_
    simp only [bX10_laws_22, run, Nat.reduceAdd, lg, st1, st2, lkill, lset, fvv, sfv, kind3, cat1, retI, retA, List.length_cons, List.length_nil, true_and, and_true, or_true, true_or, qX10_laws]
    refine sX10_laws_24 ms.1 (e_no ms ?_)
    simp only [cont, Option.toList, List.cons_append, List.nil_append]
    refine rX10_laws_27 ?_
    simp only [bX10_laws_27, run, Nat.reduceAdd, lg, st1, st2, lkill, lset, fvv, sfv, kind3, cat1, retI, retA, List.length_cons, List.length_nil, true_and, and_true, or_true, true_or, qX10_laws]
    exact hx e1 _ (Ms.thr.tr Ms.thr) zI_thr
  | true =>
    obtain ⟨l, hl, rfl⟩ := inb_t (by omega) e1
    have kl : (nI l).toNatClampNeg = l := nI_clamp (by omega)
    refine rX10_laws_10 ?_
    simp only [bX10_laws_10, run, Nat.reduceAdd, lg, st1, st2, lkill, lset, fvv, sfv, kind3, cat1, retI, retA, List.length_cons, List.length_nil, true_and, and_true, or_true, true_or, qX10_laws, show ¬ bi true = 0 by decide, ms.1, ms.R6, ms.K103, kl, (h1.2.2.2.2.1.2.2.2.1 l hl).1, not_true_eq_false, not_false_eq_true, false_implies, true_and, and_true, tti]
    exact ⟨vp_in_nI (by omega) (by omega), hq l hl rfl _ Ms.thr zI_thr⟩
theorem e_mlanguage {g : Gp} {x : Int32} {h : AH} {Q : PQ} {f : Nat → Nat} {gv : Nat → List Nat} {op : Nat} {D : HD} (hf : ModR h f gv op D)
    (hq : ∀ p, p < D.1 → x = nI p → D.1 < 10 → ∀ h', Mc h h' → ModR h' f gv op (addL D p) → zI h' 99 0 = 0 → Q (.inl (some (vI (nI D.1)))) h')
    (hx : inb x D.1 = false → ∀ h', Ms h h' → zI h' 99 0 = 1 → Q (.inl (some (vI 0))) h')
    (hy : inb x D.1 = true → D.1 = 10 → ∀ h', Ms h h' → zI h' 99 0 = 2 → Q (.inl (some (vI 0))) h') : Ev g mX10_language [vR 99, vI x] h Q := by
  refine nX10_language ?_
  refine Ex.wf (fun w => ?_)
  have h1 := hf.thr w (v := 0)
  have ms := h1.1
  have hD1 := h1.ok.2.1
  have e4 := h1.2.2.2.2.1.1
  refine rX10_language_0 ?_
  simp only [bX10_language_0, run, Nat.reduceAdd, lg, st1, st2, lkill, lset, fvv, sfv, kind3, cat1, retI, retA, List.length_cons, List.length_nil, true_and, and_true, or_true, true_or, qX10_language, hf.1.1, not_true_eq_false, not_false_eq_true, false_implies, true_and, and_true, tti]
  refine sX10_language_7 ms.1 (e_misLanguage ms e4 hD1 ?_)
  simp only [cont, Option.toList, List.cons_append, List.nil_append]
  cases e1 : inb x D.1 with
  | false =>
    refine rX10_language_10 ?_
    simp only [bX10_language_10, run, Nat.reduceAdd, lg, st1, st2, lkill, lset, fvv, sfv, kind3, cat1, retI, retA, List.length_cons, List.length_nil, true_and, and_true, or_true, true_or, qX10_language, show bi false = 0 from rfl, not_true_eq_false, not_false_eq_true, false_implies, true_and, and_true, tti]
    refine sX10_language_15 ms.1 (e_no ms ?_)
    simp only [cont, Option.toList, List.cons_append, List.nil_append]
    refine rX10_language_18 ?_
    simp only [bX10_language_18, run, Nat.reduceAdd, lg, st1, st2, lkill, lset, fvv, sfv, kind3, cat1, retI, retA, List.length_cons, List.length_nil, true_and, and_true, or_true, true_or, qX10_language]
    exact hx e1 _ (Ms.thr.tr Ms.thr) zI_thr
  | true =>
    obtain ⟨p, hp, rfl⟩ := inb_t (by omega) e1
    refine rX10_language_10 ?_
    simp only [bX10_language_10, run, Nat.reduceAdd, lg, st1, st2, lkill, lset, fvv, sfv, kind3, cat1, retI, retA, List.length_cons, List.length_nil, true_and, and_true, or_true, true_or, qX10_language, show ¬ bi true = 0 by decide, not_true_eq_false, not_false_eq_true, false_implies, true_and, and_true, tti]
    by_cases e10 : D.1 = 10
    · refine rX10_language_19 ?_
      simp only [bX10_language_19, run, Nat.reduceAdd, lg, st1, st2, lkill, lset, fvv, sfv, kind3, cat1, retI, retA, List.length_cons, List.length_nil, true_and, and_true, or_true, true_or, qX10_language, ms.1, e4, e10, show nI 10 = 10 from rfl, not_true_eq_false, not_false_eq_true, false_implies, true_and, and_true, tti]
      refine sX10_language_30 ms.1 (e_no ms ?_)
      simp only [cont, Option.toList, List.cons_append, List.nil_append]
      refine rX10_language_33 ?_
      simp only [bX10_language_33, run, Nat.reduceAdd, lg, st1, st2, lkill, lset, fvv, sfv, kind3, cat1, retI, retA, List.length_cons, List.length_nil, true_and, and_true, or_true, true_or, qX10_language]
      exact hy e1 e10 _ (Ms.thr.tr Ms.thr) zI_thr
    · have kl : (nI D.1).toNatClampNeg = D.1 := nI_clamp (by omega)
      have z := hq p hp rfl (by omega) (sI (sI (sI h 99 0 0) 102 D.1 (nI p)) 99 4 (nI (D.1 + 1))) ((Mc.thr.tr (Kp.sI (by omega))).tr (Kp.sI (by omega))) ?_ (by rw [zI_sI, up1_n _ _ (by decide), zI_n (by decide)]; exact zI_thr)
      · refine rX10_language_19 ?_
        simp only [bX10_language_19, run, Nat.reduceAdd, lg, st1, st2, lkill, lset, fvv, sfv, kind3, cat1, retI, retA, List.length_cons, List.length_nil, true_and, and_true, or_true, true_or, qX10_language, ms.1, e4, show nI D.1 = 10 ↔ False from ⟨fun q => e10 ((nI_eq (b := 10) (by omega) (by omega)).mp q), False.elim⟩, not_true_eq_false, not_false_eq_true, false_implies, true_and, and_true, tti]
        refine rX10_language_34 ?_
        simp only [bX10_language_34, run, Nat.reduceAdd, lg, st1, st2, lkill, lset, fvv, sfv, kind3, cat1, retI, retA, List.length_cons, List.length_nil, true_and, and_true, or_true, true_or, qX10_language, kL, kI, kD, kR, rL, rI, rD, iL, iD, iR, lI, lD, lR, ms.1, e4, ms.R5, ms.K102, kl, zI_n (show 99 ≠ 102 by decide), nI_1, not_true_eq_false, not_false_eq_true, false_implies, true_and, and_true, tti]
        exact ⟨vp_in_nI (by omega) (by omega), z⟩
      · obtain ⟨x1, x2, x3, x4, ⟨z1, z2, z3, z4, z5⟩, x6, x7, x8⟩ := h1
        have r : ∀ a, 103 ≤ a → zI (sI (sI (sI h 99 0 0) 102 D.1 (nI p)) 99 4 (nI (D.1 + 1))) a = zI (sI h 99 0 0) a := fun a q => by rw [zI_n (by omega), zI_n (by omega)]
        have r9 : ∀ j, j ≠ 4 → zI (sI (sI (sI h 99 0 0) 102 D.1 (nI p)) 99 4 (nI (D.1 + 1))) 99 j = zI (sI h 99 0 0) 99 j := fun j q => by rw [zI_sI, up1_n _ _ q, zI_n (by decide)]
        refine ⟨x1, by rw [r9 3 (by decide)]; exact x2, fun s hs => ?_, x4, ⟨by rw [zI_sI, up1_s]; rfl, by rw [r9 11 (by decide)]; exact z2, fun l q1 q2 => ?_, fun l q => ?_, ?_⟩, ?_, ?_, addL_ok x8 hp (by omega)⟩
        · rw [zI_n (by decide), zI_n (by decide)]; exact x3 s hs
        · change l < D.1 + 1 at q2
          rw [zI_n (by decide), zI_sI]
          show up1 _ D.1 _ l = nI (if l = D.1 then p else D.2.1 l)
          by_cases e : l = D.1
          · subst e; rw [up1_s, if_pos rfl]
          · rw [up1_n _ _ e, if_neg e]; exact z3 l q1 (by omega)
        · change l < D.1 + 1 at q
          unfold LwM
          rw [r 103 (by decide), r 104 (by decide), r 105 (by decide), r 106 (by decide), r 107 (by decide)]
          show _ = nI (if l = D.1 then [] else D.2.2.1 l).length ∧ ∀ i, i < (if l = D.1 then [] else D.2.2.1 l).length → lwOk ((if l = D.1 then [] else D.2.2.1 l).getD i w0) ∧ _
          rw [show (addL D p).2.2.1 l = if l = D.1 then [] else D.2.2.1 l from rfl]
          by_cases e : l = D.1
          · rw [if_pos e]
            exact ⟨x6 l (by omega) (by omega), fun i hi => absurd hi (Nat.not_lt_zero _)⟩
          · rw [if_neg e]
            exact z4 l (by omega)
        · unfold LnM
          rw [r 108 (by decide), r 109 (by decide), r 110 (by decide), r 111 (by decide), r 112 (by decide)]
          exact z5
        · intro l q1 q2
          change D.1 + 1 ≤ l at q1
          rw [r 103 (by decide)]
          exact x6 l (by omega) q2
        · rw [r 112 (by decide)]; exact x7
theorem e_munlaw {g : Gp} {x : Int32} {h : AH} {Q : PQ} {f : Nat → Nat} {gv : Nat → List Nat} {op : Nat} {D : HD} (hf : ModR h f gv op D)
    (hq : ∀ l, l < D.1 → x = nI l → 0 < (D.2.2.1 l).length → ∀ h', Mc h h' → ModR h' f gv op (setW D l (D.2.2.1 l).dropLast) → zI h' 99 0 = 0 → Q (.inl (some (vI (nI ((D.2.2.1 l).length - 1))))) h')
    (hx : inb x D.1 = false → ∀ h', Ms h h' → zI h' 99 0 = 1 → Q (.inl (some (vI 0))) h')
    (hy : ∀ l, l < D.1 → x = nI l → (D.2.2.1 l).length = 0 → ∀ h', Ms h h' → zI h' 99 0 = 2 → Q (.inl (some (vI 0))) h') : Ev g mX10_unlaw [vR 99, vI x] h Q := by
  refine nX10_unlaw ?_
  refine Ex.wf (fun w => ?_)
  have h1 := hf.thr w (v := 0)
  have ms := h1.1
  have hD1 := h1.ok.2.1
  have e4 := h1.2.2.2.2.1.1
  refine rX10_unlaw_0 ?_
  simp only [bX10_unlaw_0, run, Nat.reduceAdd, lg, st1, st2, lkill, lset, fvv, sfv, kind3, cat1, retI, retA, List.length_cons, List.length_nil, true_and, and_true, or_true, true_or, qX10_unlaw, hf.1.1, not_true_eq_false, not_false_eq_true, false_implies, true_and, and_true, tti]
  refine sX10_unlaw_7 ms.1 (e_misLanguage ms e4 hD1 ?_)
  simp only [cont, Option.toList, List.cons_append, List.nil_append]
  cases e1 : inb x D.1 with
  | false =>
    refine rX10_unlaw_10 ?_
    simp only [bX10_unlaw_10, run, Nat.reduceAdd, lg, st1, st2, lkill, lset, fvv, sfv, kind3, cat1, retI, retA, List.length_cons, List.length_nil, true_and, and_true, or_true, true_or, qX10_unlaw, show bi false = 0 from rfl, not_true_eq_false, not_false_eq_true, false_implies, true_and, and_true, tti]
    refine sX10_unlaw_15 ms.1 (e_no ms ?_)
    simp only [cont, Option.toList, List.cons_append, List.nil_append]
    refine rX10_unlaw_18 ?_
    simp only [bX10_unlaw_18, run, Nat.reduceAdd, lg, st1, st2, lkill, lset, fvv, sfv, kind3, cat1, retI, retA, List.length_cons, List.length_nil, true_and, and_true, or_true, true_or, qX10_unlaw]
    exact hx e1 _ (Ms.thr.tr Ms.thr) zI_thr
  | true =>
    obtain ⟨l, hl, rfl⟩ := inb_t (by omega) e1
    have l8 := h1.ok.2.2.2.1 l hl
    have kl : (nI l).toNatClampNeg = l := nI_clamp (by omega)
    have vl := vp_in_nI (show l < 10 by omega) (by omega : 10 < 2 ^ 31)
    have c0 := (h1.2.2.2.2.1.2.2.2.1 l hl).1
    refine rX10_unlaw_10 ?_
    simp only [bX10_unlaw_10, run, Nat.reduceAdd, lg, st1, st2, lkill, lset, fvv, sfv, kind3, cat1, retI, retA, List.length_cons, List.length_nil, true_and, and_true, or_true, true_or, qX10_unlaw, show ¬ bi true = 0 by decide, not_true_eq_false, not_false_eq_true, false_implies, true_and, and_true, tti]
    by_cases e0 : (D.2.2.1 l).length = 0
    · refine rX10_unlaw_19 ?_
      simp only [bX10_unlaw_19, run, Nat.reduceAdd, lg, st1, st2, lkill, lset, fvv, sfv, kind3, cat1, retI, retA, List.length_cons, List.length_nil, true_and, and_true, or_true, true_or, qX10_unlaw, ms.1, ms.R6, ms.K103, kl, c0, e0, show nI 0 = 0 from rfl, not_true_eq_false, not_false_eq_true, false_implies, true_and, and_true, tti]
      refine ⟨vl, sX10_unlaw_30 ms.1 (e_no ms ?_)⟩
      simp only [cont, Option.toList, List.cons_append, List.nil_append]
      refine rX10_unlaw_33 ?_
      simp only [bX10_unlaw_33, run, Nat.reduceAdd, lg, st1, st2, lkill, lset, fvv, sfv, kind3, cat1, retI, retA, List.length_cons, List.length_nil, true_and, and_true, or_true, true_or, qX10_unlaw]
      exact hy l hl rfl e0 _ (Ms.thr.tr Ms.thr) zI_thr
    · obtain ⟨n, hn⟩ : ∃ n, (D.2.2.1 l).length = n + 1 := ⟨(D.2.2.1 l).length - 1, by omega⟩
      have z := hq l hl rfl (by omega) (sI (sI h 99 0 0) 103 l (nI n)) (Mc.thr.tr (Kp.sI (by omega))) ?_ (by rw [zI_n (by decide)]; exact zI_thr)
      · rw [hn] at c0 z
        refine rX10_unlaw_19 ?_
        simp only [bX10_unlaw_19, run, Nat.reduceAdd, lg, st1, st2, lkill, lset, fvv, sfv, kind3, cat1, retI, retA, List.length_cons, List.length_nil, true_and, and_true, or_true, true_or, qX10_unlaw, ms.1, ms.R6, ms.K103, kl, c0, show nI (n + 1) = 0 ↔ False from ⟨fun q => by have := (nI_eq (b := 0) (by omega) (by omega)).mp q; omega, False.elim⟩, not_true_eq_false, not_false_eq_true, false_implies, true_and, and_true, tti]
        refine ⟨vl, ?_⟩
        refine rX10_unlaw_36 ?_
        simp only [bX10_unlaw_36, run, Nat.reduceAdd, lg, st1, st2, lkill, lset, fvv, sfv, kind3, cat1, retI, retA, List.length_cons, List.length_nil, true_and, and_true, or_true, true_or, qX10_unlaw, ms.1, ms.R6, ms.K103, kl, c0, nI_pred, not_true_eq_false, not_false_eq_true, false_implies, true_and, and_true, tti]
        exact ⟨vl, vl, z⟩
      · obtain ⟨x1, x2, x3, x4, ⟨z1, z2, z3, z4, z5⟩, x6, x7, x8⟩ := h1
        have r : ∀ a, a ≠ 103 → zI (sI (sI h 99 0 0) 103 l (nI n)) a = zI (sI h 99 0 0) a := fun a q => zI_n q
        refine ⟨x1, by rw [r 99 (by decide)]; exact x2, by unfold SnM; rw [r 100 (by decide)]; exact x3, x4, ⟨by rw [r 99 (by decide)]; exact z1, by rw [r 99 (by decide)]; exact z2, by rw [r 102 (by decide)]; exact z3, fun k q => ?_, ?_⟩, ?_, by rw [r 112 (by decide)]; exact x7, setW_ok x8 (by rw [List.length_dropLast]; omega)⟩
        · change k < D.1 at q
          unfold LwM
          rw [r 104 (by decide), r 105 (by decide), r 106 (by decide), r 107 (by decide), zI_sI]
          rw [show (setW D l (D.2.2.1 l).dropLast).2.2.1 k = if k = l then (D.2.2.1 l).dropLast else D.2.2.1 k from rfl]
          by_cases e : k = l
          · subst e
            rw [if_pos rfl, up1_s, List.length_dropLast]
            refine ⟨by rw [hn]; rfl, fun i hi => ?_⟩
            rw [getD_dropLast hi]
            exact (z4 k q).2 i (by omega)
          · rw [if_neg e, up1_n _ _ e]
            exact z4 k q
        · unfold LnM
          rw [r 108 (by decide), r 109 (by decide), r 110 (by decide), r 111 (by decide), r 112 (by decide)]
          exact z5
        · intro k q1 q2
          change D.1 ≤ k at q1
          rw [zI_sI, up1_n _ _ (by omega)]
          exact x6 k q1 q2
theorem e_mcommon {g : Gp} {x y : Int32} {h : AH} {Q : PQ} {f : Nat → Nat} {gv : Nat → List Nat} {op : Nat} {D : HD} (hf : ModR h f gv op D)
    (hq : ∀ l k, l < D.1 → k < D.1 → x = nI l → y = nI k → ∀ h', Ms h h' → zI h' 99 0 = 0 → Q (.inl (some (vI (nI (cmn D.2.1 20 l k))))) h')
    (hx : (inb x D.1 && inb y D.1) = false → ∀ h', Ms h h' → zI h' 99 0 = 1 → Q (.inl (some (vI 0))) h') : Ev g mX10_common [vR 99, vI x, vI y] h Q := by
  refine nX10_common ?_
  refine Ex.wf (fun w => ?_)
  have h1 := hf.thr w (v := 0)
  have ms := h1.1
  have hD := h1.ok
  have hD1 := hD.2.1
  have e4 := h1.2.2.2.2.1.1
  have bad : (inb x D.1 && inb y D.1) = false → Ex g mX10_common 21 [vR 99, vI x, vI y, vU, vU] [] (sI h 99 0 0) (0, 0) Q := fun e => by
    refine rX10_common_21 ?_
    simp only [bX10_common_21, run, Nat.reduceAdd, lg, st1, st2, lkill, lset, fvv, sfv, kind3, cat1, retI, retA, List.length_cons, List.length_nil, true_and, and_true, or_true, true_or, qX10_common]
    refine sX10_common_23 ms.1 (e_no ms ?_)
    simp only [cont, Option.toList, List.cons_append, List.nil_append]
    refine rX10_common_26 ?_
    simp only [bX10_common_26, run, Nat.reduceAdd, lg, st1, st2, lkill, lset, fvv, sfv, kind3, cat1, retI, retA, List.length_cons, List.length_nil, true_and, and_true, or_true, true_or, qX10_common]
    exact hx e _ (Ms.thr.tr Ms.thr) zI_thr
  refine rX10_common_0 ?_
  simp only [bX10_common_0, run, Nat.reduceAdd, lg, st1, st2, lkill, lset, fvv, sfv, kind3, cat1, retI, retA, List.length_cons, List.length_nil, true_and, and_true, or_true, true_or, qX10_common, hf.1.1, not_true_eq_false, not_false_eq_true, false_implies, true_and, and_true, tti]
  refine sX10_common_7 ms.1 (e_misLanguage ms e4 hD1 ?_)
  simp only [cont, Option.toList, List.cons_append, List.nil_append]
  cases e1 : inb x D.1 with
  | false =>
    refine rX10_common_10 ?_
    simp only [bX10_common_10, run, Nat.reduceAdd, lg, st1, st2, lkill, lset, fvv, sfv, kind3, cat1, retI, retA, List.length_cons, List.length_nil, true_and, and_true, or_true, true_or, qX10_common, show bi false = 0 from rfl, not_true_eq_false, not_false_eq_true, false_implies, true_and, and_true, tti]
    exact bad (by rw [e1]; rfl)
  | true =>
    refine rX10_common_10 ?_
    simp only [bX10_common_10, run, Nat.reduceAdd, lg, st1, st2, lkill, lset, fvv, sfv, kind3, cat1, retI, retA, List.length_cons, List.length_nil, true_and, and_true, or_true, true_or, qX10_common, show ¬ bi true = 0 by decide, not_true_eq_false, not_false_eq_true, false_implies, true_and, and_true, tti]
    refine sX10_common_15 ms.1 (e_misLanguage ms e4 hD1 ?_)
    simp only [cont, Option.toList, List.cons_append, List.nil_append]
    cases e2 : inb y D.1 with
    | false =>
      refine rX10_common_18 ?_
      simp only [bX10_common_18, run, Nat.reduceAdd, lg, st1, st2, lkill, lset, fvv, sfv, kind3, cat1, retI, retA, List.length_cons, List.length_nil, true_and, and_true, or_true, true_or, qX10_common, show bi false = 0 from rfl, not_true_eq_false, not_false_eq_true, false_implies, true_and, and_true, tti]
      refine sX10_common_23 ms.1 (e_no ms ?_)
      simp only [cont, Option.toList, List.cons_append, List.nil_append]
      refine rX10_common_26 ?_
      simp only [bX10_common_26, run, Nat.reduceAdd, lg, st1, st2, lkill, lset, fvv, sfv, kind3, cat1, retI, retA, List.length_cons, List.length_nil, true_and, and_true, or_true, true_or, qX10_common]
      exact hx (by rw [e1, e2]; rfl) _ (Ms.thr.tr Ms.thr) zI_thr
    | true =>
      obtain ⟨l, hl, rfl⟩ := inb_t (by omega) e1
      obtain ⟨k, hk, rfl⟩ := inb_t (by omega) e2
      have z := hq l k hl hk rfl rfl _ Ms.thr zI_thr
      have lp : ∀ n a b, a < D.1 → b < D.1 → a + b < n → Q (.inl (some (vI (nI (cmn D.2.1 n a b))))) (sI h 99 0 0) → Ex g mX10_common 32 [vR 99, vI (nI l), vI (nI k), vI (nI a), vI (nI b)] [] (sI h 99 0 0) (0, 0) Q := by
        intro n
        induction n with
        | zero => intro a b _ _ q _; omega
        | succ n ih =>
          intro a b ha hb hab z
          unfold cmn at z
          have ka : (nI a).toNatClampNeg = a := nI_clamp (by omega)
          have kb : (nI b).toNatClampNeg = b := nI_clamp (by omega)
          have va := vp_in_nI (show a < 10 by omega) (by omega : 10 < 2 ^ 31)
          have vb := vp_in_nI (show b < 10 by omega) (by omega : 10 < 2 ^ 31)
          by_cases e : a = b
          · rw [if_pos e] at z
            refine rX10_common_32 ?_
            simp only [bX10_common_32, run, Nat.reduceAdd, lg, st1, st2, lkill, lset, fvv, sfv, kind3, cat1, retI, retA, List.length_cons, List.length_nil, true_and, and_true, or_true, true_or, qX10_common, e, not_true_eq_false, not_false_eq_true, false_implies, true_and, and_true, tti]
            refine rX10_common_66 ?_
            simp only [bX10_common_66, run, Nat.reduceAdd, lg, st1, st2, lkill, lset, fvv, sfv, kind3, cat1, retI, retA, List.length_cons, List.length_nil, true_and, and_true, or_true, true_or, qX10_common]
            rw [← e]
            exact z
          · rw [if_neg e] at z
            have ne : nI a = nI b ↔ False := ⟨fun q => e ((nI_eq (by omega) (by omega)).mp q), False.elim⟩
            by_cases e2 : b < a
            · rw [if_pos e2] at z
              have pl := hD.2.2.1 a (by omega) ha
              have p1 := h1.2.2.2.2.1.2.2.1 a (by omega) ha
              refine rX10_common_32 ?_
              simp only [bX10_common_32, run, Nat.reduceAdd, lg, st1, st2, lkill, lset, fvv, sfv, kind3, cat1, retI, retA, List.length_cons, List.length_nil, true_and, and_true, or_true, true_or, qX10_common, ne, show nI a ≤ nI b ↔ False from ⟨nI_ge e2 (by omega), False.elim⟩, ms.1, ms.R5, ms.K102, ka, p1, not_true_eq_false, not_false_eq_true, false_implies, true_and, and_true, tti]
              exact ⟨va, ih _ b (by omega) hb (by omega) z⟩
            · rw [if_neg e2] at z
              have pl := hD.2.2.1 b (by omega) hb
              have p1 := h1.2.2.2.2.1.2.2.1 b (by omega) hb
              refine rX10_common_32 ?_
              simp only [bX10_common_32, run, Nat.reduceAdd, lg, st1, st2, lkill, lset, fvv, sfv, kind3, cat1, retI, retA, List.length_cons, List.length_nil, true_and, and_true, or_true, true_or, qX10_common, ne, show nI a ≤ nI b ↔ True from ⟨fun _ => trivial, fun _ => nI_le (by omega) (by omega)⟩, not_true_eq_false, not_false_eq_true, false_implies, true_and, and_true, tti]
              refine rX10_common_54 ?_
              simp only [bX10_common_54, run, Nat.reduceAdd, lg, st1, st2, lkill, lset, fvv, sfv, kind3, cat1, retI, retA, List.length_cons, List.length_nil, true_and, and_true, or_true, true_or, qX10_common, ms.1, ms.R5, ms.K102, kb, p1, not_true_eq_false, not_false_eq_true, false_implies, true_and, and_true, tti]
              exact ⟨vb, ih a _ ha (by omega) (by omega) z⟩
      refine rX10_common_18 ?_
      simp only [bX10_common_18, run, Nat.reduceAdd, lg, st1, st2, lkill, lset, fvv, sfv, kind3, cat1, retI, retA, List.length_cons, List.length_nil, true_and, and_true, or_true, true_or, qX10_common, show ¬ bi true = 0 by decide, not_true_eq_false, not_false_eq_true, false_implies, true_and, and_true, tti]
      refine rX10_common_27 ?_
      simp only [bX10_common_27, run, Nat.reduceAdd, lg, st1, st2, lkill, lset, fvv, sfv, kind3, cat1, retI, retA, List.length_cons, List.length_nil, true_and, and_true, or_true, true_or, qX10_common]
      exact lp 20 l k hl hk (by omega) z
