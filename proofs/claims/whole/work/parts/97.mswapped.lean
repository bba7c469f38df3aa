theorem swp_getD {i j : Nat} {ws : List Lw} (hi : i + 1 < ws.length) : (swp i ws).getD j w0 = ws.getD (if i ≤ j ∧ j < i + 1 then j + 1 else if j = i + 1 then i else j) w0 := by
  unfold swp
  rw [getD_ins (by rw [List.length_eraseIdx, if_pos (by omega)]; omega), getD_ers, getD_ers]
  by_cases e1 : j = i
  · subst e1
    rw [if_pos (by omega), if_neg (by omega), if_pos (by omega)]
  · by_cases e2 : j = i + 1
    · subst e2
      rw [if_neg (by omega), if_pos rfl, if_neg (by omega), if_pos rfl]
    · by_cases e3 : j < i
      · rw [if_pos (by omega), if_pos e3, if_neg (by omega), if_neg e2]
      · rw [if_neg (by omega), if_neg e2, if_neg (by omega), if_neg (by omega), if_neg e2, show j - 1 + 1 = j by omega]
theorem TwR.a {h : AH} {c : Nat} {f : Nat → Nat} {gv : Nat → List Nat} {D : HD} (hD : hdV D) (gm : ∀ m, m < 12 → Wok (gv m)) (x : TwR h c f gv D) : ∀ l, l < D.1 → ∀ m, m < 12 → Wok (cel D f gv m l).1 ∧ zL h c (l * 12 + m) = wM (cel D f gv m l).1 := fun l hl m hm => ⟨(cel_okv hD (gm m hm) hl).1, x.2 l hl m hm⟩
theorem SvR.a {h : AH} {f : Nat → Nat} {gv : Nat → List Nat} {D : HD} (hD : hdV D) (gm : ∀ m, m < 12 → Wok (gv m)) (x : SvR h f gv D) : ∀ l, l < D.1 → ∀ m, m < 12 → Wok (cel D f gv m l).1 ∧ zL h 113 (l * 12 + m) = wM (cel D f gv m l).1 := fun l hl m hm => ⟨(cel_okv hD (gm m hm) hl).1, (x l hl m hm).1⟩
theorem e_mswapped {g : Gp} {x y : Int32} {h : AH} {Q : PQ} {f : Nat → Nat} {gv : Nat → List Nat} {op : Nat} {D : HD} (hf : ModR h f gv op D)
    (hq : ∀ l i, l < D.1 → i + 1 < (D.2.2.1 l).length → x = nI l → y = nI i → ∀ h', Ms h h' → zI h' 99 0 = 0 → Q (.inl (some (vI (nI (cdf (fun m => (cel D f gv m l).1) (fun m => (cel (setW D l (swp i (D.2.2.1 l))) f gv m l).1) 12))))) h')
    (hx : inb x D.1 = false → ∀ h', Ms h h' → zI h' 99 0 = 1 → Q (.inl (some (vI 0))) h')
    (hx1 : ∀ l, l < D.1 → x = nI l → inb y (D.2.2.1 l).length = false → ∀ h', Ms h h' → zI h' 99 0 = 1 → Q (.inl (some (vI 0))) h')
    (hx2 : ∀ l, l < D.1 → x = nI l → ∀ i, i + 1 = (D.2.2.1 l).length → y = nI i → ∀ h', Ms h h' → zI h' 99 0 = 2 → Q (.inl (some (vI 0))) h') : Ev g mX10_swapped [vR 99, vI x, vI y] h Q := by
  refine nX10_swapped ?_
  refine Ex.wf (fun w => ?_)
  have h1 := hf.thr w (v := 0)
  have ms := h1.1
  have hD := h1.ok
  have hD1 := hD.2.1
  have e4 := h1.2.2.2.2.1.1
  have gm : ∀ m, m < 12 → Wok (gv m) := fun m hm => (h1.2.2.2.1 m hm).1
  have bad : (∀ h', Ms h h' → zI h' 99 0 = 1 → Q (.inl (some (vI 0))) h') → Ex g mX10_swapped 29 [vR 99, vI x, vI y, vU, vU] [] (sI h 99 0 0) (0, 0) Q := fun e => by
    refine rX10_swapped_29 ?_
    simp only [bX10_swapped_29, run, Nat.reduceAdd, lg, st1, st2, lkill, lset, fvv, sfv, kind3, cat1, retI, retA, List.length_cons, List.length_nil, true_and, and_true, or_true, true_or, qX10_swapped]
    refine sX10_swapped_31 ms.1 (e_no ms ?_)
    simp only [cont, Option.toList, List.cons_append, List.nil_append]
    refine rX10_swapped_34 ?_
    simp only [bX10_swapped_34, run, Nat.reduceAdd, lg, st1, st2, lkill, lset, fvv, sfv, kind3, cat1, retI, retA, List.length_cons, List.length_nil, true_and, and_true, or_true, true_or, qX10_swapped]
    exact e _ (Ms.thr.tr Ms.thr) zI_thr
  refine rX10_swapped_0 ?_
  simp only [bX10_swapped_0, run, Nat.reduceAdd, lg, st1, st2, lkill, lset, fvv, sfv, kind3, cat1, retI, retA, List.length_cons, List.length_nil, true_and, and_true, or_true, true_or, qX10_swapped, hf.1.1, not_true_eq_false, not_false_eq_true, false_implies, true_and, and_true, tti]
  refine sX10_swapped_7 ms.1 (e_misLanguage ms e4 hD1 ?_)
  simp only [cont, Option.toList, List.cons_append, List.nil_append]
  cases e1 : inb x D.1 with
  | false =>
    refine rX10_swapped_10 ?_
    simp only [bX10_swapped_10, run, Nat.reduceAdd, lg, st1, st2, lkill, lset, fvv, sfv, kind3, cat1, retI, retA, List.length_cons, List.length_nil, true_and, and_true, or_true, true_or, qX10_swapped, show bi false = 0 from rfl, not_true_eq_false, not_false_eq_true, false_implies, true_and, and_true, tti]
    exact bad (hx e1)
  | true =>
    obtain ⟨l, hl, rfl⟩ := inb_t (by omega) e1
    have l8 := hD.2.2.2.1 l hl
    have kl : (nI l).toNatClampNeg = l := nI_clamp (by omega)
    have vl := vp_in_nI (show l < 10 by omega) (by omega : 10 < 2 ^ 31)
    have c0 := (h1.2.2.2.2.1.2.2.2.1 l hl).1
    refine rX10_swapped_10 ?_
    simp only [bX10_swapped_10, run, Nat.reduceAdd, lg, st1, st2, lkill, lset, fvv, sfv, kind3, cat1, retI, retA, List.length_cons, List.length_nil, true_and, and_true, or_true, true_or, qX10_swapped, show ¬ bi true = 0 by decide, ms.1, ms.R6, ms.K103, kl, c0, not_true_eq_false, not_false_eq_true, false_implies, true_and, and_true, tti]
    refine ⟨vl, sX10_swapped_23 (e_isInZ (by omega) ?_)⟩
    simp only [cont, Option.toList, List.cons_append, List.nil_append]
    cases e2 : inb y (D.2.2.1 l).length with
    | false =>
      refine rX10_swapped_26 ?_
      simp only [bX10_swapped_26, run, Nat.reduceAdd, lg, st1, st2, lkill, lset, fvv, sfv, kind3, cat1, retI, retA, List.length_cons, List.length_nil, true_and, and_true, or_true, true_or, qX10_swapped, show bi false = 0 from rfl, not_true_eq_false, not_false_eq_true, false_implies, true_and, and_true, tti]
      refine sX10_swapped_31 ms.1 (e_no ms ?_)
      simp only [cont, Option.toList, List.cons_append, List.nil_append]
      refine rX10_swapped_34 ?_
      simp only [bX10_swapped_34, run, Nat.reduceAdd, lg, st1, st2, lkill, lset, fvv, sfv, kind3, cat1, retI, retA, List.length_cons, List.length_nil, true_and, and_true, or_true, true_or, qX10_swapped]
      exact hx1 l hl rfl e2 _ (Ms.thr.tr Ms.thr) zI_thr
    | true =>
      obtain ⟨i, hi, rfl⟩ := inb_t (by omega) e2
      obtain ⟨n, hn⟩ : ∃ n, (D.2.2.1 l).length = n + 1 := ⟨(D.2.2.1 l).length - 1, by omega⟩
      refine rX10_swapped_26 ?_
      simp only [bX10_swapped_26, run, Nat.reduceAdd, lg, st1, st2, lkill, lset, fvv, sfv, kind3, cat1, retI, retA, List.length_cons, List.length_nil, true_and, and_true, or_true, true_or, qX10_swapped, show ¬ bi true = 0 by decide, not_true_eq_false, not_false_eq_true, false_implies, true_and, and_true, tti]
      have c1 := c0
      rw [hn] at c1
      by_cases ei : i = n
      · refine rX10_swapped_35 ?_
        simp only [bX10_swapped_35, run, Nat.reduceAdd, lg, st1, st2, lkill, lset, fvv, sfv, kind3, cat1, retI, retA, List.length_cons, List.length_nil, true_and, and_true, or_true, true_or, qX10_swapped, ms.1, ms.R6, ms.K103, kl, c1, nI_pred, show nI i = nI n ↔ True from ⟨fun _ => trivial, fun _ => by rw [ei]⟩, not_true_eq_false, not_false_eq_true, false_implies, true_and, and_true, tti]
        refine ⟨vl, sX10_swapped_49 ms.1 (e_no ms ?_)⟩
        simp only [cont, Option.toList, List.cons_append, List.nil_append]
        refine rX10_swapped_52 ?_
        simp only [bX10_swapped_52, run, Nat.reduceAdd, lg, st1, st2, lkill, lset, fvv, sfv, kind3, cat1, retI, retA, List.length_cons, List.length_nil, true_and, and_true, or_true, true_or, qX10_swapped]
        exact hx2 l hl rfl i (by omega) rfl _ (Ms.thr.tr Ms.thr) zI_thr
      · have i1 : i + 1 < (D.2.2.1 l).length := by omega
        refine rX10_swapped_35 ?_
        simp only [bX10_swapped_35, run, Nat.reduceAdd, lg, st1, st2, lkill, lset, fvv, sfv, kind3, cat1, retI, retA, List.length_cons, List.length_nil, true_and, and_true, or_true, true_or, qX10_swapped, ms.1, ms.R6, ms.K103, kl, c1, nI_pred, show nI i = nI n ↔ False from ⟨fun q => ei ((nI_eq (by omega) (by omega)).mp q), False.elim⟩, not_true_eq_false, not_false_eq_true, false_implies, true_and, and_true, tti]
        refine ⟨vl, ?_⟩
        refine rX10_swapped_53 ?_
        simp only [bX10_swapped_53, run, Nat.reduceAdd, lg, st1, st2, lkill, lset, fvv, sfv, kind3, cat1, retI, retA, List.length_cons, List.length_nil, true_and, and_true, or_true, true_or, qX10_swapped]
        refine Ex.wf (fun w1 => ?_)
        refine sX10_swapped_54 (by decide) ms.1 (e_mtold h1.mdb fun h2 c cN c22 kp2 sv2 tw2 => ?_)
        simp only [cont, Option.toList, List.cons_append, List.nil_append]
        refine Ex.wf (fun w2 => ?_)
        have rt2 := (Rt.rf (h := sI h 99 0 0) (i := l * 8 + i)).kp ms w1 kp2
        have ms2 := rt2.s w1 ms
        refine rX10_swapped_57 ?_
        simp only [bX10_swapped_57, run, Nat.reduceAdd, lg, st1, st2, lkill, lset, fvv, sfv, kind3, cat1, retI, retA, List.length_cons, List.length_nil, true_and, and_true, or_true, true_or, qX10_swapped, mk_8, nI_1]
        refine sX10_swapped_73 ms2.1 (e_mswapLaws ms2 (by omega) (by omega) (by omega) fun h3 sw3 => ?_)
        simp only [cont, Option.toList, List.cons_append, List.nil_append]
        refine Ex.wf (fun w3 => ?_)
        have rt3 := rt2.sw sw3 (Nat.le_refl _)
        have sl := swp_len (ws := D.2.2.1 l) hi
        have eL : zI (sI h 99 0 0) 103 = up1 (zI (sI h 99 0 0) 103) l (nI (swp i (D.2.2.1 l)).length) := by rw [sl, ← c0, up1_self]
        have md3 : MdB h3 f gv (setW D l (swp i (D.2.2.1 l))) := Rt.mdb (i := i) (k := i + 1) w1 h1 hl (by omega) i1 (by rw [sl]; exact l8) (by rw [← eL]; exact rt3) (fun j hj => by
          rw [sl] at hj
          refine ⟨swp_getD i1, ?_⟩
          split
          · omega
          · split <;> omega)
        have ms3 := rt3.s w1 ms
        refine rX10_swapped_76 ?_
        simp only [bX10_swapped_76, run, Nat.reduceAdd, lg, st1, st2, lkill, lset, fvv, sfv, kind3, cat1, retI, retA, List.length_cons, List.length_nil, true_and, and_true, or_true, true_or, qX10_swapped]
        refine sX10_swapped_77 ms3.1 (e_msolve md3 fun h4 kp4 sv4 => ?_)
        simp only [cont, Option.toList, List.cons_append, List.nil_append]
        have rt4 := rt3.kp ms w1 kp4
        have ms4 := rt4.s w1 ms
        have k3 : Kp (fun a => 104 ≤ a ∧ a ≤ 107) h2 h3 := by
          obtain ⟨a1, a2, a3, a4, a5, a6, a7⟩ := sw3
          exact ⟨by rw [a5]; exact Nat.le_refl _, fun a _ => by rw [a1], fun a _ q => ⟨a6 a (by omega), by rw [a3], by rw [a4], by rw [a2]⟩⟩
        have tw4 := (tw2.kp w2 k3 (by omega)).kp w3 kp4 (by omega)
        have ok4 : hdV (setW D l (swp i (D.2.2.1 l))) := md3.2.2.2.2
        refine rX10_swapped_80 ?_
        simp only [bX10_swapped_80, run, Nat.reduceAdd, lg, st1, st2, lkill, lset, fvv, sfv, kind3, cat1, retI, retA, List.length_cons, List.length_nil, true_and, and_true, or_true, true_or, qX10_swapped]
        rw [← bI_s l, ← bI_0]
        refine sX10_swapped_84 ms4.1 (e_munlike (A := fun l m => (cel D f gv m l).1) (B := fun e m => (cel (setW D l (swp i (D.2.2.1 l))) f gv m e).1) ms4 hD1 tw4.1 (tw4.a hD.v gm) (SvR.a ok4 gm sv4) (by omega) (by decide) ?_)
        simp only [cont, Option.toList, List.cons_append, List.nil_append]
        rw [un_lang, if_pos hl]
        rw [bI_s]
        refine rX10_swapped_87 ?_
        simp only [bX10_swapped_87, run, Nat.reduceAdd, lg, st1, st2, lkill, lset, fvv, sfv, kind3, cat1, retI, retA, List.length_cons, List.length_nil, true_and, and_true, or_true, true_or, qX10_swapped, mk_8, nI_1]
        refine sX10_swapped_104 ms4.1 (e_mswapLaws ms4 (by omega) (by omega) (by omega) fun h5 sw5 => ?_)
        simp only [cont, Option.toList, List.cons_append, List.nil_append]
        have rt5 := rt4.sb sw5 (Nat.le_refl _)
        refine rX10_swapped_107 ?_
        simp only [bX10_swapped_107, run, Nat.reduceAdd, lg, st1, st2, lkill, lset, fvv, sfv, kind3, cat1, retI, retA, List.length_cons, List.length_nil, true_and, and_true, or_true, true_or, qX10_swapped]
        exact hq l i hl i1 rfl rfl h5 (Ms.thr.tr rt5.back) (by rw [rt5.2.1 0]; exact zI_thr)
theorem ers_getD {i j : Nat} {ws : List Lw} (hi : i < ws.length) (hj : j < (ws.eraseIdx i).length) : (ws.eraseIdx i).getD j w0 = ws.getD (if i ≤ j ∧ j < ws.length - 1 then j + 1 else if j = ws.length - 1 then i else j) w0 ∧ (if i ≤ j ∧ j < ws.length - 1 then j + 1 else if j = ws.length - 1 then i else j) < ws.length := by
  rw [List.length_eraseIdx, if_pos hi] at hj
  rw [getD_ers]
  by_cases e : j < i
  · rw [if_pos e, if_neg (by omega), if_neg (by omega)]
    exact ⟨rfl, by omega⟩
  · rw [if_neg e, if_pos (by omega)]
    exact ⟨rfl, by omega⟩
theorem e_mwithout {g : Gp} {x y : Int32} {h : AH} {Q : PQ} {f : Nat → Nat} {gv : Nat → List Nat} {op : Nat} {D : HD} (hf : ModR h f gv op D)
    (hq : ∀ l i, l < D.1 → i < (D.2.2.1 l).length → x = nI l → y = nI i → ∀ h', Ms h h' → zI h' 99 0 = 0 → Q (.inl (some (vI (nI (cds (fun e m => (cel D f gv m e).1) (fun e m => (cel (setW D l ((D.2.2.1 l).eraseIdx i)) f gv m e).1) D.1))))) h')
    (hx : inb x D.1 = false → ∀ h', Ms h h' → zI h' 99 0 = 1 → Q (.inl (some (vI 0))) h')
    (hx1 : ∀ l, l < D.1 → x = nI l → inb y (D.2.2.1 l).length = false → ∀ h', Ms h h' → zI h' 99 0 = 1 → Q (.inl (some (vI 0))) h') : Ev g mX10_without [vR 99, vI x, vI y] h Q := by
  refine nX10_without ?_
  refine Ex.wf (fun w => ?_)
  have h1 := hf.thr w (v := 0)
  have ms := h1.1
  have hD := h1.ok
  have hD1 := hD.2.1
  have e4 := h1.2.2.2.2.1.1
  have gm : ∀ m, m < 12 → Wok (gv m) := fun m hm => (h1.2.2.2.1 m hm).1
  have bad : (∀ h', Ms h h' → zI h' 99 0 = 1 → Q (.inl (some (vI 0))) h') → Ex g mX10_without 29 [vR 99, vI x, vI y, vU, vU, vU, vU] [] (sI h 99 0 0) (0, 0) Q := fun e => by
    refine rX10_without_29 ?_
    simp only [bX10_without_29, run, Nat.reduceAdd, lg, st1, st2, lkill, lset, fvv, sfv, kind3, cat1, retI, retA, List.length_cons, List.length_nil, true_and, and_true, or_true, true_or, qX10_without]
    refine sX10_without_31 ms.1 (e_no ms ?_)
    simp only [cont, Option.toList, List.cons_append, List.nil_append]
    refine rX10_without_34 ?_
    simp only [bX10_without_34, run, Nat.reduceAdd, lg, st1, st2, lkill, lset, fvv, sfv, kind3, cat1, retI, retA, List.length_cons, List.length_nil, true_and, and_true, or_true, true_or, qX10_without]
    exact e _ (Ms.thr.tr Ms.thr) zI_thr
  refine rX10_without_0 ?_
  simp only [bX10_without_0, run, Nat.reduceAdd, lg, st1, st2, lkill, lset, fvv, sfv, kind3, cat1, retI, retA, List.length_cons, List.length_nil, true_and, and_true, or_true, true_or, qX10_without, hf.1.1, not_true_eq_false, not_false_eq_true, false_implies, true_and, and_true, tti]
  refine sX10_without_7 ms.1 (e_misLanguage ms e4 hD1 ?_)
  simp only [cont, Option.toList, List.cons_append, List.nil_append]
  cases e1 : inb x D.1 with
  | false =>
    refine rX10_without_10 ?_
    simp only [bX10_without_10, run, Nat.reduceAdd, lg, st1, st2, lkill, lset, fvv, sfv, kind3, cat1, retI, retA, List.length_cons, List.length_nil, true_and, and_true, or_true, true_or, qX10_without, show bi false = 0 from rfl, not_true_eq_false, not_false_eq_true, false_implies, true_and, and_true, tti]
    exact bad (hx e1)
  | true =>
    obtain ⟨l, hl, rfl⟩ := inb_t (by omega) e1
    have l8 := hD.2.2.2.1 l hl
    have kl : (nI l).toNatClampNeg = l := nI_clamp (by omega)
    have vl := vp_in_nI (show l < 10 by omega) (by omega : 10 < 2 ^ 31)
    have c0 := (h1.2.2.2.2.1.2.2.2.1 l hl).1
    refine rX10_without_10 ?_
    simp only [bX10_without_10, run, Nat.reduceAdd, lg, st1, st2, lkill, lset, fvv, sfv, kind3, cat1, retI, retA, List.length_cons, List.length_nil, true_and, and_true, or_true, true_or, qX10_without, show ¬ bi true = 0 by decide, ms.1, ms.R6, ms.K103, kl, c0, not_true_eq_false, not_false_eq_true, false_implies, true_and, and_true, tti]
    refine ⟨vl, sX10_without_23 (e_isInZ (by omega) ?_)⟩
    simp only [cont, Option.toList, List.cons_append, List.nil_append]
    cases e2 : inb y (D.2.2.1 l).length with
    | false =>
      refine rX10_without_26 ?_
      simp only [bX10_without_26, run, Nat.reduceAdd, lg, st1, st2, lkill, lset, fvv, sfv, kind3, cat1, retI, retA, List.length_cons, List.length_nil, true_and, and_true, or_true, true_or, qX10_without, show bi false = 0 from rfl, not_true_eq_false, not_false_eq_true, false_implies, true_and, and_true, tti]
      refine sX10_without_31 ms.1 (e_no ms ?_)
      simp only [cont, Option.toList, List.cons_append, List.nil_append]
      refine rX10_without_34 ?_
      simp only [bX10_without_34, run, Nat.reduceAdd, lg, st1, st2, lkill, lset, fvv, sfv, kind3, cat1, retI, retA, List.length_cons, List.length_nil, true_and, and_true, or_true, true_or, qX10_without]
      exact hx1 l hl rfl e2 _ (Ms.thr.tr Ms.thr) zI_thr
    | true =>
      obtain ⟨i, hi, rfl⟩ := inb_t (by omega) e2
      obtain ⟨n, hn⟩ : ∃ n, (D.2.2.1 l).length = n + 1 := ⟨(D.2.2.1 l).length - 1, by omega⟩
      have c1 := c0
      rw [hn] at c1
      refine rX10_without_26 ?_
      simp only [bX10_without_26, run, Nat.reduceAdd, lg, st1, st2, lkill, lset, fvv, sfv, kind3, cat1, retI, retA, List.length_cons, List.length_nil, true_and, and_true, or_true, true_or, qX10_without, show ¬ bi true = 0 by decide, not_true_eq_false, not_false_eq_true, false_implies, true_and, and_true, tti]
      refine rX10_without_35 ?_
      simp only [bX10_without_35, run, Nat.reduceAdd, lg, st1, st2, lkill, lset, fvv, sfv, kind3, cat1, retI, retA, List.length_cons, List.length_nil, true_and, and_true, or_true, true_or, qX10_without]
      refine Ex.wf (fun w1 => ?_)
      refine sX10_without_36 (by decide) ms.1 (e_mtold h1.mdb fun h2 c cN c22 kp2 sv2 tw2 => ?_)
      simp only [cont, Option.toList, List.cons_append, List.nil_append]
      have z := hq l i hl hi rfl rfl
      have rt2 := (Rt.rf (h := sI h 99 0 0) (i := l * 8 + i)).kp ms w1 kp2
      have ms2 := rt2.s w1 ms
      have l3 := rt2.2.2.2.2.1
      -- back again
      have back : ∀ u r, ∀ d k, k = i + d → k ≤ n → ∀ h6, Rt (sI h 99 0 0) h6 (l * 8 + i) (l * 8 + k) (zI (sI h 99 0 0) 103) → (∀ h7, Rt (sI h 99 0 0) h7 (l * 8 + i) (l * 8 + i) (zI (sI h 99 0 0) 103) → Q (.inl (some (vI r))) h7) → Ex g mX10_without 125 [vR 99, vI (nI l), vI (nI i), vR c, vI (nI n), vI r, vI (bI k)] [] h6 u Q := by
        intro u r d
        induction d with
        | zero =>
          intro k hk _ h6 rt6 out
          rw [hk, Nat.add_zero] at rt6 ⊢
          have lt : bI i < nI i ↔ True := ⟨fun _ => trivial, fun _ => by
            cases i with
            | zero => decide
            | succ i => rw [bI_s]; exact nI_lt (by omega) (by omega)⟩
          refine rX10_without_125 ?_
          simp only [bX10_without_125, run, Nat.reduceAdd, lg, st1, st2, lkill, lset, fvv, sfv, kind3, cat1, retI, retA, List.length_cons, List.length_nil, true_and, and_true, or_true, true_or, qX10_without, lt, not_true_eq_false, not_false_eq_true, false_implies, true_and, and_true, tti]
          refine rX10_without_157 ?_
          simp only [bX10_without_157, run, Nat.reduceAdd, lg, st1, st2, lkill, lset, fvv, sfv, kind3, cat1, retI, retA, List.length_cons, List.length_nil, true_and, and_true, or_true, true_or, qX10_without]
          exact out h6 rt6
        | succ d ih =>
          intro k hk hkn h6 rt6 out
          obtain ⟨k', rfl⟩ : ∃ k', k = k' + 1 := ⟨k - 1, by omega⟩
          have ms6 := rt6.s w1 ms
          rw [bI_s]
          refine rX10_without_125 ?_
          simp only [bX10_without_125, run, Nat.reduceAdd, lg, st1, st2, lkill, lset, fvv, sfv, kind3, cat1, retI, retA, List.length_cons, List.length_nil, true_and, and_true, or_true, true_or, qX10_without, show nI k' < nI i ↔ False from ⟨nI_nlt (by omega) (by omega), False.elim⟩, mk_8, nI_1, not_true_eq_false, not_false_eq_true, false_implies, true_and, and_true, tti]
          refine sX10_without_148 ms6.1 (e_mswapLaws ms6 (by omega) (by omega) (by omega) fun h7 sw7 => ?_)
          simp only [cont, Option.toList, List.cons_append, List.nil_append]
          have e6 : nI k' + -1 = bI k' := by rw [← bI_s k']; exact bI_dec k'
          refine rX10_without_151 ?_
          simp only [bX10_without_151, run, Nat.reduceAdd, lg, st1, st2, lkill, lset, fvv, sfv, kind3, cat1, retI, retA, List.length_cons, List.length_nil, true_and, and_true, or_true, true_or, qX10_without, e6]
          exact ih k' (by omega) (by omega) h7 (Rt.sb (k := l * 8 + k') rt6 sw7 (by omega)) out
      -- there
      have there : ∀ u, ∀ d k, k + d = n → i ≤ k → ∀ h3, Wf h3 → Rt (sI h 99 0 0) h3 (l * 8 + i) (l * 8 + k) (zI (sI h 99 0 0) 103) → TwR h3 c f gv D → ∀ z6 : AV, Ex g mX10_without 53 [vR 99, vI (nI l), vI (nI i), vR c, vI (nI n), vI (nI k), z6] [] h3 u Q := by
        intro u d
        induction d with
        | zero =>
          intro k hk ik h3 w3 rt3 tw3 z6
          have e9 : k = n := by omega
          subst e9
          have ms3 := rt3.s w1 ms
          have v3 : zI h3 103 l = nI (k + 1) := by rw [rt3.2.2.2.2.1]; exact c1
          refine rX10_without_53 ?_
          simp only [bX10_without_53, run, Nat.reduceAdd, lg, st1, st2, lkill, lset, fvv, sfv, kind3, cat1, retI, retA, List.length_cons, List.length_nil, true_and, and_true, or_true, true_or, qX10_without, show nI k ≤ nI k ↔ True from ⟨fun _ => trivial, fun _ => nI_le (Nat.le_refl _) (by omega)⟩, not_true_eq_false, not_false_eq_true, false_implies, true_and, and_true, tti]
          refine rX10_without_86 ?_
          simp only [bX10_without_86, run, Nat.reduceAdd, lg, st1, st2, lkill, lset, fvv, sfv, kind3, cat1, retI, retA, List.length_cons, List.length_nil, true_and, and_true, or_true, true_or, qX10_without, kI, ms3.1, ms3.R6, ms3.K103, kl, v3, nI_pred, not_true_eq_false, not_false_eq_true, false_implies, true_and, and_true, tti]
          have rt4 := rt3.len (l := l) (v := nI k)
          have ms4 := rt4.s w1 ms
          have el : ((D.2.2.1 l).eraseIdx i).length = k := by rw [List.length_eraseIdx, if_pos hi, hn]; rfl
          have md4 : MdB (sI h3 103 l (nI k)) f gv (setW D l ((D.2.2.1 l).eraseIdx i)) := Rt.mdb (i := i) (k := k) w1 h1 hl ik (by omega) (by rw [el]; omega) (by rw [el]; exact rt4) (fun j hj => by
            have q := ers_getD hi hj
            rw [hn, Nat.add_sub_cancel] at q
            rw [hn]
            exact q)
          have tw4 : TwR (sI h3 103 l (nI k)) c f gv D := tw3.kp w3 (Kp.sI (S := fun a => a = 103) rfl) (by omega)
          refine ⟨vl, vl, ?_⟩
          refine Ex.wf (fun w4 => ?_)
          refine sX10_without_97 ms4.1 (e_msolve md4 fun h5 kp5 sv5 => ?_)
          simp only [cont, Option.toList, List.cons_append, List.nil_append]
          have rt5 := rt4.kp ms w1 kp5
          have ms5 := rt5.s w1 ms
          have tw5 := tw4.kp w4 kp5 (by omega)
          have ok5 : hdV (setW D l ((D.2.2.1 l).eraseIdx i)) := md4.2.2.2.2
          refine rX10_without_100 ?_
          simp only [bX10_without_100, run, Nat.reduceAdd, lg, st1, st2, lkill, lset, fvv, sfv, kind3, cat1, retI, retA, List.length_cons, List.length_nil, true_and, and_true, or_true, true_or, qX10_without]
          rw [← bI_0]
          refine sX10_without_104 ms5.1 (e_munlike (A := fun l m => (cel D f gv m l).1) (B := fun e m => (cel (setW D l ((D.2.2.1 l).eraseIdx i)) f gv m e).1) ms5 hD1 tw5.1 (tw5.a hD.v gm) (SvR.a ok5 gm sv5) (by omega) (by omega) ?_)
          simp only [cont, Option.toList, List.cons_append, List.nil_append]
          rw [un_all]
          have v5 : zI h5 103 l = nI k := by rw [rt5.2.2.2.2.1, up1_s]
          have rt6 := rt5.len (l := l) (v := nI (k + 1))
          have eU : up1 (up1 (zI (sI h 99 0 0) 103) l (nI k)) l (nI (k + 1)) = zI (sI h 99 0 0) 103 := by
            funext j
            by_cases e : j = l
            · rw [e, up1_s]; exact c1.symm
            · rw [up1_n _ _ e, up1_n _ _ e]
          rw [eU] at rt6
          refine rX10_without_107 ?_
          simp only [bX10_without_107, run, Nat.reduceAdd, lg, st1, st2, lkill, lset, fvv, sfv, kind3, cat1, retI, retA, List.length_cons, List.length_nil, true_and, and_true, or_true, true_or, qX10_without, ms5.1, ms5.R6, ms5.K103, kl, v5, nI_1, not_true_eq_false, not_false_eq_true, false_implies, true_and, and_true, tti]
          refine ⟨vl, vl, ?_⟩
          exact back _ _ (k - i) k (by omega) (Nat.le_refl _) _ rt6 (fun h7 rt7 => z h7 (Ms.thr.tr rt7.back) (by rw [rt7.2.1 0]; exact zI_thr))
        | succ d ih =>
          intro k hk ik h3 w3 rt3 tw3 z6
          have ms3 := rt3.s w1 ms
          refine rX10_without_53 ?_
          simp only [bX10_without_53, run, Nat.reduceAdd, lg, st1, st2, lkill, lset, fvv, sfv, kind3, cat1, retI, retA, List.length_cons, List.length_nil, true_and, and_true, or_true, true_or, qX10_without, show nI n ≤ nI k ↔ False from ⟨nI_ge (by omega) (by omega), False.elim⟩, mk_8, nI_1, not_true_eq_false, not_false_eq_true, false_implies, true_and, and_true, tti]
          refine sX10_without_77 ms3.1 (e_mswapLaws ms3 (by omega) (by omega) (by omega) fun h4 sw4 => ?_)
          simp only [cont, Option.toList, List.cons_append, List.nil_append]
          refine Ex.wf (fun w4 => ?_)
          have rt4 := rt3.sw sw4 (by omega)
          have k3 : Kp (fun a => 104 ≤ a ∧ a ≤ 107) h3 h4 := by
            obtain ⟨a1, a2, a3, a4, a5, a6, a7⟩ := sw4
            exact ⟨by rw [a5]; exact Nat.le_refl _, fun a _ => by rw [a1], fun a _ q => ⟨a6 a (by omega), by rw [a3], by rw [a4], by rw [a2]⟩⟩
          refine rX10_without_80 ?_
          simp only [bX10_without_80, run, Nat.reduceAdd, lg, st1, st2, lkill, lset, fvv, sfv, kind3, cat1, retI, retA, List.length_cons, List.length_nil, true_and, and_true, or_true, true_or, qX10_without, nI_1]
          exact ih (k + 1) (by omega) (by omega) h4 w4 rt4 (tw3.kp w3 k3 (by omega)) _
      have v2 : zI h2 103 l = nI (n + 1) := by rw [l3]; exact c1
      refine Ex.wf (fun w2 => ?_)
      refine rX10_without_39 ?_
      simp only [bX10_without_39, run, Nat.reduceAdd, lg, st1, st2, lkill, lset, fvv, sfv, kind3, cat1, retI, retA, List.length_cons, List.length_nil, true_and, and_true, or_true, true_or, qX10_without, ms2.1, ms2.R6, ms2.K103, kl, v2, nI_pred, not_true_eq_false, not_false_eq_true, false_implies, true_and, and_true, tti]
      exact ⟨vl, there _ (n - i) i (by omega) (Nat.le_refl _) h2 w2 rt2 tw2 _⟩
