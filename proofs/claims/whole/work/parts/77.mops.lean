/-! ===== the model's calls: sounds, words of the mother ===== -/
theorem zI_thr {h : AH} {v : Int32} : zI (sI h 99 0 v) 99 0 = v := by rw [zI_sI, up1_s]
theorem e_no {g : Gp} {v : Int32} {h : AH} {Q : PQ} (ms : ModS h) (hq : Q (.inl (some (vI 0))) (sI h 99 0 v)) : Ev g mX10_no [vR 99, vI v] h Q := by
  refine nX10_no ?_
  refine rX10_no_0 ?_
  simp only [bX10_no_0, run, Nat.reduceAdd, lg, st1, st2, lkill, lset, fvv, sfv, kind3, cat1, retI, retA, List.length_cons, List.length_nil, true_and, and_true, or_true, true_or, qX10_no, ms.1, not_true_eq_false, not_false_eq_true, false_implies, true_and, and_true, tti]
  exact hq
theorem e_ok {g : Gp} {v : Int32} {h : AH} {Q : PQ} (ms : ModS h) (hq : Q (.inl (some (vI v))) (sI h 99 0 0)) : Ev g mX10_ok [vR 99, vI v] h Q := by
  refine nX10_ok ?_
  refine rX10_ok_0 ?_
  simp only [bX10_ok_0, run, Nat.reduceAdd, lg, st1, st2, lkill, lset, fvv, sfv, kind3, cat1, retI, retA, List.length_cons, List.length_nil, true_and, and_true, or_true, true_or, qX10_ok, ms.1, not_true_eq_false, not_false_eq_true, false_implies, true_and, and_true, tti]
  exact hq
theorem e_thrown {g : Gp} {h : AH} {Q : PQ} (ms : ModS h) (hq : Q (.inl (some (vI (zI h 99 0)))) h) : Ev g mX10_thrown [vR 99] h Q := by
  refine nX10_thrown ?_
  refine rX10_thrown_0 ?_
  simp only [bX10_thrown_0, run, Nat.reduceAdd, lg, st1, st2, lkill, lset, fvv, sfv, kind3, cat1, retI, retA, List.length_cons, List.length_nil, true_and, and_true, or_true, true_or, qX10_thrown, ms.1, not_true_eq_false, not_false_eq_true, false_implies, true_and, and_true, tti]
  exact hq
theorem HsM.eq {h h' : AH} {D : HD} (e4 : zI h' 99 4 = zI h 99 4) (e11 : zI h' 99 11 = zI h 99 11) (e : ∀ a, 102 ≤ a → a ≤ 112 → zI h' a = zI h a) (z : HsM h D) : HsM h' D := by
  obtain ⟨z1, z2, z3, z4, z5⟩ := z
  refine ⟨by rw [e4]; exact z1, by rw [e11]; exact z2, ?_, ?_, ?_⟩
  · rw [e 102 (by decide) (by decide)]; exact z3
  · unfold LwM
    rw [e 103 (by decide) (by decide), e 104 (by decide) (by decide), e 105 (by decide) (by decide), e 106 (by decide) (by decide), e 107 (by decide) (by decide)]
    exact z4
  · unfold LnM
    rw [e 108 (by decide) (by decide), e 109 (by decide) (by decide), e 110 (by decide) (by decide), e 111 (by decide) (by decide), e 112 (by decide) (by decide)]
    exact z5
theorem ModR.ok {h : AH} {f : Nat → Nat} {gv : Nat → List Nat} {op : Nat} {D : HD} (x : ModR h f gv op D) : hdOk D := x.2.2.2.2.2.2.2
theorem ModR.thr {h : AH} {f : Nat → Nat} {gv : Nat → List Nat} {op : Nat} {D : HD} {v : Int32} (w : Wf h) (x : ModR h f gv op D) : ModR (sI h 99 0 v) f gv op D := Ms.thr.mod w x
theorem Mc.thr {h : AH} {v : Int32} : Mc h (sI h 99 0 v) := Kp.sI (by omega)
theorem e_msetSound {g : Gp} {x y : Int32} {h : AH} {Q : PQ} {f : Nat → Nat} {gv : Nat → List Nat} {op : Nat} {D : HD} (hf : ModR h f gv op D)
    (hq : ∀ s v, s < 16 → v < 64 → x = nI s → y = nI v → ∀ h', Mc h h' → ModR h' (fup f s v) gv op D → zI h' 99 0 = 0 → Q (.inl (some (vI (nI (f s))))) h')
    (hx : (inb x 16 && inb y 64) = false → ∀ h', Ms h h' → zI h' 99 0 = 1 → Q (.inl (some (vI 0))) h') : Ev g mX10_setSound [vR 99, vI x, vI y] h Q := by
  refine nX10_setSound ?_
  refine Ex.wf (fun w => ?_)
  have h1 := hf.thr w (v := 0)
  have bad : (inb x 16 && inb y 64) = false → Ex g mX10_setSound 22 [vR 99, vI x, vI y, vU] [] (sI h 99 0 0) (0, 0) Q := fun e => by
    refine rX10_setSound_22 ?_
    simp only [bX10_setSound_22, run, Nat.reduceAdd, lg, st1, st2, lkill, lset, fvv, sfv, kind3, cat1, retI, retA, List.length_cons, List.length_nil, true_and, and_true, or_true, true_or, qX10_setSound]
    refine sX10_setSound_24 h1.1.1 (e_no h1.1 ?_)
    simp only [cont, Option.toList, List.cons_append, List.nil_append]
    refine rX10_setSound_27 ?_
    simp only [bX10_setSound_27, run, Nat.reduceAdd, lg, st1, st2, lkill, lset, fvv, sfv, kind3, cat1, retI, retA, List.length_cons, List.length_nil, true_and, and_true, or_true, true_or, qX10_setSound]
    exact hx e _ (Ms.thr.tr Ms.thr) zI_thr
  refine rX10_setSound_0 ?_
  simp only [bX10_setSound_0, run, Nat.reduceAdd, lg, st1, st2, lkill, lset, fvv, sfv, kind3, cat1, retI, retA, List.length_cons, List.length_nil, true_and, and_true, or_true, true_or, qX10_setSound, hf.1.1, not_true_eq_false, not_false_eq_true, false_implies, true_and, and_true, tti]
  refine sX10_setSound_6 (e_misSound ?_)
  simp only [cont, Option.toList, List.cons_append, List.nil_append]
  cases e1 : inb x 16 with
  | false =>
    refine rX10_setSound_9 ?_
    simp only [bX10_setSound_9, run, Nat.reduceAdd, lg, st1, st2, lkill, lset, fvv, sfv, kind3, cat1, retI, retA, List.length_cons, List.length_nil, true_and, and_true, or_true, true_or, qX10_setSound, show bi false = 0 from rfl, not_true_eq_false, not_false_eq_true, false_implies, true_and, and_true, tti]
    exact bad (by rw [e1]; rfl)
  | true =>
    refine rX10_setSound_9 ?_
    simp only [bX10_setSound_9, run, Nat.reduceAdd, lg, st1, st2, lkill, lset, fvv, sfv, kind3, cat1, retI, retA, List.length_cons, List.length_nil, true_and, and_true, or_true, true_or, qX10_setSound, show ¬ bi true = 0 by decide, not_true_eq_false, not_false_eq_true, false_implies, true_and, and_true, tti]
    refine sX10_setSound_16 (e_isInB (n := 63) (by decide) ?_)
    simp only [cont, Option.toList, List.cons_append, List.nil_append]
    cases e2 : inb y 64 with
    | false =>
      refine rX10_setSound_19 ?_
      simp only [bX10_setSound_19, run, Nat.reduceAdd, lg, st1, st2, lkill, lset, fvv, sfv, kind3, cat1, retI, retA, List.length_cons, List.length_nil, true_and, and_true, or_true, true_or, qX10_setSound, show bi false = 0 from rfl, not_true_eq_false, not_false_eq_true, false_implies, true_and, and_true, tti]
      refine sX10_setSound_24 h1.1.1 (e_no h1.1 ?_)
      simp only [cont, Option.toList, List.cons_append, List.nil_append]
      refine rX10_setSound_27 ?_
      simp only [bX10_setSound_27, run, Nat.reduceAdd, lg, st1, st2, lkill, lset, fvv, sfv, kind3, cat1, retI, retA, List.length_cons, List.length_nil, true_and, and_true, or_true, true_or, qX10_setSound]
      exact hx (by rw [e1, e2]; rfl) _ (Ms.thr.tr Ms.thr) zI_thr
    | true =>
      obtain ⟨s, hs, rfl⟩ := inb_t (by decide) e1
      obtain ⟨v, hv, rfl⟩ := inb_t (by decide) e2
      have ms := h1.1
      have ks : (nI s).toNatClampNeg = s := nI_clamp (by omega)
      have vs := vp_in_nI hs (by omega : 16 < 2 ^ 31)
      have c0 := (h1.2.2.1 s hs).2
      have z := hq s v hs hv rfl rfl (sI (sI h 99 0 0) 100 s (nI v)) (Mc.thr.tr (Kp.sI (by omega))) ?_ (by rw [zI_n (by decide)]; exact zI_thr)
      · refine rX10_setSound_19 ?_
        simp only [bX10_setSound_19, run, Nat.reduceAdd, lg, st1, st2, lkill, lset, fvv, sfv, kind3, cat1, retI, retA, List.length_cons, List.length_nil, true_and, and_true, or_true, true_or, qX10_setSound, show ¬ bi true = 0 by decide, not_true_eq_false, not_false_eq_true, false_implies, true_and, and_true, tti]
        refine rX10_setSound_28 ?_
        simp only [bX10_setSound_28, run, Nat.reduceAdd, lg, st1, st2, lkill, lset, fvv, sfv, kind3, cat1, retI, retA, List.length_cons, List.length_nil, true_and, and_true, or_true, true_or, qX10_setSound, ms.1, ms.R1, ms.K100, ks, c0, not_true_eq_false, not_false_eq_true, false_implies, true_and, and_true, tti]
        exact ⟨vs, vs, z⟩
      · obtain ⟨x1, x2, x3, x4, x5, x6, x7, x8⟩ := h1
        refine ⟨x1, by rw [zI_n (by decide)]; exact x2, fun t ht => ?_, x4, x5.eq (by rw [zI_n (by decide)]) (by rw [zI_n (by decide)]) (fun a q1 q2 => zI_n (by omega)), by rw [zI_n (by decide)]; exact x6, by rw [zI_n (by decide)]; exact x7, x8⟩
        rw [zI_sI]
        unfold fup
        by_cases e : t = s
        · subst e; rw [up1_s, if_pos rfl]; exact ⟨hv, rfl⟩
        · rw [up1_n _ _ e, if_neg e]; exact x3 t ht
theorem e_mword {g : Gp} {x : Int32} {h : AH} {Q : PQ} {f : Nat → Nat} {gv : Nat → List Nat} {op : Nat} {D : HD} (hf : ModR h f gv op D)
    (hq : ∀ m, m < 12 → x = nI m → ∀ h', Mc h h' → ModR h' f (gup gv m []) (m + 1) D → zI h' 99 0 = 0 → Q (.inl (some (vI (nI (gv m).length)))) h')
    (hx : inb x 12 = false → ∀ h', Ms h h' → zI h' 99 0 = 1 → Q (.inl (some (vI 0))) h') : Ev g mX10_word [vR 99, vI x] h Q := by
  refine nX10_word ?_
  refine Ex.wf (fun w => ?_)
  have h1 := hf.thr w (v := 0)
  refine rX10_word_0 ?_
  simp only [bX10_word_0, run, Nat.reduceAdd, lg, st1, st2, lkill, lset, fvv, sfv, kind3, cat1, retI, retA, List.length_cons, List.length_nil, true_and, and_true, or_true, true_or, qX10_word, hf.1.1, not_true_eq_false, not_false_eq_true, false_implies, true_and, and_true, tti]
  refine sX10_word_6 (e_misMeaning ?_)
  simp only [cont, Option.toList, List.cons_append, List.nil_append]
  cases e1 : inb x 12 with
  | false =>
    refine rX10_word_9 ?_
    simp only [bX10_word_9, run, Nat.reduceAdd, lg, st1, st2, lkill, lset, fvv, sfv, kind3, cat1, retI, retA, List.length_cons, List.length_nil, true_and, and_true, or_true, true_or, qX10_word, show bi false = 0 from rfl, not_true_eq_false, not_false_eq_true, false_implies, true_and, and_true, tti]
    refine sX10_word_14 h1.1.1 (e_no h1.1 ?_)
    simp only [cont, Option.toList, List.cons_append, List.nil_append]
    refine rX10_word_17 ?_
    simp only [bX10_word_17, run, Nat.reduceAdd, lg, st1, st2, lkill, lset, fvv, sfv, kind3, cat1, retI, retA, List.length_cons, List.length_nil, true_and, and_true, or_true, true_or, qX10_word]
    exact hx e1 _ (Ms.thr.tr Ms.thr) zI_thr
  | true =>
    obtain ⟨m, hm, rfl⟩ := inb_t (by decide) e1
    have ms := h1.1
    have ks : (nI m).toNatClampNeg = m := nI_clamp (by omega)
    have vs := vp_in_nI hm (by omega : 12 < 2 ^ 31)
    obtain ⟨g1, g2⟩ := h1.2.2.2.1 m hm
    have z := hq m hm rfl (sI (sL (sI h 99 0 0) 101 m 1) 99 3 (nI m)) ((Mc.thr.tr (Kp.sL (by omega))).tr (Kp.sI (by omega))) ?_ (by rw [zI_sI, up1_n _ _ (by decide), iL]; exact zI_thr)
    · refine rX10_word_9 ?_
      simp only [bX10_word_9, run, Nat.reduceAdd, lg, st1, st2, lkill, lset, fvv, sfv, kind3, cat1, retI, retA, List.length_cons, List.length_nil, true_and, and_true, or_true, true_or, qX10_word, show ¬ bi true = 0 by decide, not_true_eq_false, not_false_eq_true, false_implies, true_and, and_true, tti]
      refine rX10_word_18 ?_
      simp only [bX10_word_18, run, Nat.reduceAdd, lg, st1, st2, lkill, lset, fvv, sfv, kind3, cat1, retI, retA, List.length_cons, List.length_nil, true_and, and_true, or_true, true_or, qX10_word, ms.1, ms.R2, ms.K101, ks, g2, not_true_eq_false, not_false_eq_true, false_implies, true_and, and_true, tti]
      refine ⟨vs, sX10_word_24 (e_mlen g1 ?_)⟩
      simp only [cont, Option.toList, List.cons_append, List.nil_append]
      refine rX10_word_27 ?_
      simp only [bX10_word_27, run, Nat.reduceAdd, lg, st1, st2, lkill, lset, fvv, sfv, kind3, cat1, retI, retA, List.length_cons, List.length_nil, true_and, and_true, or_true, true_or, qX10_word, kL, kI, kD, kR, rL, rI, rD, iL, iD, iR, lI, lD, lR, ms.1, ms.R2, ms.K101, ks, not_true_eq_false, not_false_eq_true, false_implies, true_and, and_true, tti]
      exact ⟨vs, z⟩
    · obtain ⟨x1, x2, x3, x4, x5, x6, x7, x8⟩ := h1
      refine ⟨x1, ⟨by rw [zI_sI, up1_s, bI_s], by omega⟩, by unfold SnM; rw [zI_n (by decide)]; exact x3, fun t ht => ?_, x5.eq (by rw [zI_sI, up1_n _ _ (by decide), iL]) (by rw [zI_sI, up1_n _ _ (by decide), iL]) (fun a q1 q2 => zI_n (by omega)), by rw [zI_n (by decide)]; exact x6, by rw [zI_n (by decide)]; exact x7, x8⟩
      rw [lI, zL_sL]
      unfold gup
      by_cases e : t = m
      · subst e; rw [up1_s, if_pos rfl]; exact ⟨wok_nil, rfl⟩
      · rw [up1_n _ _ e, if_neg e]; exact x4 t ht
theorem e_mspell {g : Gp} {x : Int32} {h : AH} {Q : PQ} {f : Nat → Nat} {gv : Nat → List Nat} {op : Nat} {D : HD} (hf : ModR h f gv op D)
    (hq : ∀ s m, s < 16 → x = nI s → op = m + 1 → (gv m).length < 10 → ∀ h', Mc h h' → ModR h' f (gup gv m (gv m ++ [s])) op D → zI h' 99 0 = 0 → Q (.inl (some (vI (nI ((gv m).length + 1))))) h')
    (hx : inb x 16 = false → ∀ h', Ms h h' → zI h' 99 0 = 1 → Q (.inl (some (vI 0))) h')
    (hy : inb x 16 = true → (op = 0 ∨ (gv (op - 1)).length = 10) → ∀ h', Ms h h' → zI h' 99 0 = 2 → Q (.inl (some (vI 0))) h') : Ev g mX10_spell [vR 99, vI x] h Q := by
  refine nX10_spell ?_
  refine Ex.wf (fun w => ?_)
  have h1 := hf.thr w (v := 0)
  have ms := h1.1
  refine rX10_spell_0 ?_
  simp only [bX10_spell_0, run, Nat.reduceAdd, lg, st1, st2, lkill, lset, fvv, sfv, kind3, cat1, retI, retA, List.length_cons, List.length_nil, true_and, and_true, or_true, true_or, qX10_spell, hf.1.1, not_true_eq_false, not_false_eq_true, false_implies, true_and, and_true, tti]
  refine sX10_spell_6 (e_misSound ?_)
  simp only [cont, Option.toList, List.cons_append, List.nil_append]
  cases e1 : inb x 16 with
  | false =>
    refine rX10_spell_9 ?_
    simp only [bX10_spell_9, run, Nat.reduceAdd, lg, st1, st2, lkill, lset, fvv, sfv, kind3, cat1, retI, retA, List.length_cons, List.length_nil, true_and, and_true, or_true, true_or, qX10_spell, show bi false = 0 from rfl, not_true_eq_false, not_false_eq_true, false_implies, true_and, and_true, tti]
    refine sX10_spell_14 h1.1.1 (e_no h1.1 ?_)
    simp only [cont, Option.toList, List.cons_append, List.nil_append]
    refine rX10_spell_17 ?_
    simp only [bX10_spell_17, run, Nat.reduceAdd, lg, st1, st2, lkill, lset, fvv, sfv, kind3, cat1, retI, retA, List.length_cons, List.length_nil, true_and, and_true, or_true, true_or, qX10_spell]
    exact hx e1 _ (Ms.thr.tr Ms.thr) zI_thr
  | true =>
    obtain ⟨s, hs, rfl⟩ := inb_t (by decide) e1
    have hy' := hy e1
    have o3 := h1.2.1
    refine rX10_spell_9 ?_
    simp only [bX10_spell_9, run, Nat.reduceAdd, lg, st1, st2, lkill, lset, fvv, sfv, kind3, cat1, retI, retA, List.length_cons, List.length_nil, true_and, and_true, or_true, true_or, qX10_spell, show ¬ bi true = 0 by decide, not_true_eq_false, not_false_eq_true, false_implies, true_and, and_true, tti]
    by_cases e0 : op = 0
    · subst e0
      refine rX10_spell_18 ?_
      simp only [bX10_spell_18, run, Nat.reduceAdd, lg, st1, st2, lkill, lset, fvv, sfv, kind3, cat1, retI, retA, List.length_cons, List.length_nil, true_and, and_true, or_true, true_or, qX10_spell, ms.1, o3.1, show bI 0 = -1 from bI_0, not_true_eq_false, not_false_eq_true, false_implies, true_and, and_true, tti]
      refine rX10_spell_43 ?_
      simp only [bX10_spell_43, run, Nat.reduceAdd, lg, st1, st2, lkill, lset, fvv, sfv, kind3, cat1, retI, retA, List.length_cons, List.length_nil, true_and, and_true, or_true, true_or, qX10_spell]
      refine sX10_spell_45 h1.1.1 (e_no h1.1 ?_)
      simp only [cont, Option.toList, List.cons_append, List.nil_append]
      refine rX10_spell_48 ?_
      simp only [bX10_spell_48, run, Nat.reduceAdd, lg, st1, st2, lkill, lset, fvv, sfv, kind3, cat1, retI, retA, List.length_cons, List.length_nil, true_and, and_true, or_true, true_or, qX10_spell]
      exact hy' (Or.inl rfl) _ (Ms.thr.tr Ms.thr) zI_thr
    · obtain ⟨m, rfl⟩ : ∃ m, op = m + 1 := ⟨op - 1, by omega⟩
      have hm : m < 12 := by omega
      have ks : (nI m).toNatClampNeg = m := nI_clamp (by omega)
      have vs := vp_in_nI hm (by omega : 12 < 2 ^ 31)
      obtain ⟨g1, g2⟩ := h1.2.2.2.1 m hm
      have g10 := g1.1
      have oe := o3.1
      rw [bI_s] at oe
      refine rX10_spell_18 ?_
      simp only [bX10_spell_18, run, Nat.reduceAdd, lg, st1, st2, lkill, lset, fvv, sfv, kind3, cat1, retI, retA, List.length_cons, List.length_nil, true_and, and_true, or_true, true_or, qX10_spell, ms.1, oe, show nI m = -1 ↔ False from ⟨nI_m1 (by omega), False.elim⟩, ms.R2, ms.K101, ks, g2, not_true_eq_false, not_false_eq_true, false_implies, true_and, and_true, tti]
      refine ⟨vs, sX10_spell_35 (e_mlen g1 ?_)⟩
      simp only [cont, Option.toList, List.cons_append, List.nil_append]
      by_cases e10 : (gv m).length = 10
      · refine rX10_spell_38 ?_
        simp only [bX10_spell_38, run, Nat.reduceAdd, lg, st1, st2, lkill, lset, fvv, sfv, kind3, cat1, retI, retA, List.length_cons, List.length_nil, true_and, and_true, or_true, true_or, qX10_spell, e10, show nI 10 = 10 from rfl, not_true_eq_false, not_false_eq_true, false_implies, true_and, and_true, tti]
        refine sX10_spell_45 h1.1.1 (e_no h1.1 ?_)
        simp only [cont, Option.toList, List.cons_append, List.nil_append]
        refine rX10_spell_48 ?_
        simp only [bX10_spell_48, run, Nat.reduceAdd, lg, st1, st2, lkill, lset, fvv, sfv, kind3, cat1, retI, retA, List.length_cons, List.length_nil, true_and, and_true, or_true, true_or, qX10_spell]
        exact hy' (Or.inr e10) _ (Ms.thr.tr Ms.thr) zI_thr
      · refine rX10_spell_38 ?_
        simp only [bX10_spell_38, run, Nat.reduceAdd, lg, st1, st2, lkill, lset, fvv, sfv, kind3, cat1, retI, retA, List.length_cons, List.length_nil, true_and, and_true, or_true, true_or, qX10_spell, show nI (gv m).length = 10 ↔ False from ⟨fun q => e10 ((nI_eq (b := 10) (by omega) (by omega)).mp q), False.elim⟩, not_true_eq_false, not_false_eq_true, false_implies, true_and, and_true, tti]
        have wk : Wok (gv m ++ [s]) := ⟨by simp; omega, fun t ht => by
          rcases List.mem_append.mp ht with ht | ht
          · exact g1.2 t ht
          · have := List.mem_singleton.mp ht; omega⟩
        have z := hq s m hs rfl rfl (by omega) (sL (sI h 99 0 0) 101 m (wM (gv m ++ [s]))) (Mc.thr.tr (Kp.sL (by omega))) ?_ (by rw [iL]; exact zI_thr)
        · refine rX10_spell_49 ?_
          simp only [bX10_spell_49, run, Nat.reduceAdd, lg, st1, st2, lkill, lset, fvv, sfv, kind3, cat1, retI, retA, List.length_cons, List.length_nil, true_and, and_true, or_true, true_or, qX10_spell, kL, kI, kD, kR, rL, rI, rD, iL, iD, iR, lI, lD, lR, ms.1, oe, ms.R2, ms.K101, ks, g2, wM_plus hs, zL_sL, up1_s, not_true_eq_false, not_false_eq_true, false_implies, true_and, and_true, tti]
          refine ⟨vs, vs, vs, sX10_spell_83 (e_mlen wk ?_)⟩
          simp only [cont, Option.toList, List.cons_append, List.nil_append]
          refine rX10_spell_86 ?_
          simp only [bX10_spell_86, run, Nat.reduceAdd, lg, st1, st2, lkill, lset, fvv, sfv, kind3, cat1, retI, retA, List.length_cons, List.length_nil, true_and, and_true, or_true, true_or, qX10_spell]
          rw [show (gv m ++ [s]).length = (gv m).length + 1 by simp]
          exact z
        · obtain ⟨x1, x2, x3, x4, x5, x6, x7, x8⟩ := h1
          refine ⟨x1, x2, x3, fun t ht => ?_, x5.eq rfl rfl (fun a q1 q2 => rfl), x6, x7, x8⟩
          rw [zL_sL]
          unfold gup
          by_cases e : t = m
          · subst e; rw [up1_s, if_pos rfl]; exact ⟨wk, rfl⟩
          · rw [up1_n _ _ e, if_neg e]; exact x4 t ht
