theorem e_mrecalledNow {g : Gp} {l m : Nat} {h : AH} {Q : PQ} {f : Nat → Nat} {gv : Nat → List Nat} {op : Nat} {D : HD} (md : MdA h f gv op D) (hm : m < 12) (hl : l < D.1)
    (hq : ∀ h', Mq h h' → zI h' 99 0 = zI h 99 0 → Q (.inl (some (vL (wM (rcl D f gv m l))))) h') : Ev g mX10_recalledNow [vR 99, vI (nI l), vI (nI m)] h Q := by
  have hD := md.1.ok
  have hD0 := hD.1
  have hD1 := hD.2.1
  have ms := md.1.1
  have e4 := md.1.2.2.2.2.1.1
  have par := md.1.2.2.2.2.1.2.2.1
  have ok := fun d hd => (md.wk hm (l := d) hd).1
  have bd := fun d hd => (rcs_le (l := l) ok d hd).2
  refine nX10_recalledNow ?_
  refine Ex.wf (fun w => ?_)
  have w0 : ¬ wit D f gv m l 0 := fun q => by
    have := q.1
    unfold pc at this
    rw [if_pos rfl] at this
    omega
  have wp : ∀ d, 0 < d → (pc D.2.1 d = l + 1 ↔ D.2.1 d = l) := fun d hd => by
    unfold pc
    rw [if_neg (by omega)]
    omega
  have pk : ∀ d, 0 < d → d < D.1 → (nI (D.2.1 d) = nI l ↔ D.2.1 d = l) := fun d h0 hd => nI_eq (by have := hD.2.2.1 d h0 hd; omega) (by omega)
  -- behind the votes that are opened
  have third : ∀ a, a < D.1 → wit D f gv m l a → (∀ k, k < a → ¬ wit D f gv m l k) → ∀ d k, a + 1 + k + d = D.1 → ∀ (h2 : AH) (z7 z8 z9 z10 : AV), Mq h h2 → zI h2 99 0 = zI h 99 0 → VM h2 (rcs D f gv m l (a + 1 + k)).2 (cel D f gv m a).1.length → Ex g mX10_recalledNow 134 [vR 99, vI (nI l), vI (nI m), vI (nI a), vL (wM (cel D f gv m a).1), vU, vI (nI (a + 1 + k)), z7, z8, z9, z10] [] h2 (0, 0) Q := by
    intro a ha wa na d
    induction d with
    | zero =>
      intro k hk h2 z7 z8 z9 z10 y e vm
      have e9 : a + 1 + k = D.1 := by omega
      have md2 := y.a w md
      have r1 := (rcs_f wa na).2 k
      have rp := fun p => rcs_pos wa na p k
      rw [e9] at vm r1 rp ⊢
      have e42 := md2.1.2.2.2.2.1.1
      have z := hq h2 y e
      unfold rcl at z
      rw [r1, if_neg (by omega), Nat.add_sub_cancel] at z
      refine rX10_recalledNow_134 ?_
      simp only [bX10_recalledNow_134, run, Nat.reduceAdd, lg, st1, st2, lkill, lset, fvv, sfv, kind3, cat1, retI, retA, List.length_cons, List.length_nil, true_and, and_true, or_true, true_or, qX10_recalledNow, md2.1.1.1, e42, show nI D.1 ≤ nI D.1 ↔ True from ⟨fun _ => trivial, fun _ => nI_le (Nat.le_refl _) (by omega)⟩, not_true_eq_false, not_false_eq_true, false_implies, true_and, and_true, tti]
      exact e_rcElect md2.1.1 (ok a ha) vm (fun p s => by have := bd D.1 (Nat.le_refl _) p s; omega) rp z
    | succ d ih =>
      intro k hk h2 z7 z8 z9 z10 y e vm
      refine Ex.wf (fun w2 => ?_)
      have hd1 : a + 1 + k < D.1 := by omega
      have md2 := y.a w md
      have ms2 := md2.1.1
      have e42 := md2.1.2.2.2.2.1.1
      have p2 := md2.1.2.2.2.2.1.2.2.1 (a + 1 + k) (by omega) hd1
      have kd : (nI (a + 1 + k)).toNatClampNeg = a + 1 + k := nI_clamp (by omega)
      have vd := vp_in_nI (show a + 1 + k < 10 by omega) (by omega : 10 < 2 ^ 31)
      have nx := ih (k + 1) (by omega)
      rw [show a + 1 + (k + 1) = a + 1 + k + 1 by omega] at nx
      have r1 := (rcs_f wa na).2 k
      have nle : nI D.1 ≤ nI (a + 1 + k) ↔ False := ⟨nI_ge (by omega) (by omega), False.elim⟩
      have pkk := pk (a + 1 + k) (by omega) hd1
      have wpp := wp (a + 1 + k) (by omega)
      by_cases e1 : D.2.1 (a + 1 + k) = l
      · refine rX10_recalledNow_134 ?_
        simp only [bX10_recalledNow_134, run, Nat.reduceAdd, lg, st1, st2, lkill, lset, fvv, sfv, kind3, cat1, retI, retA, List.length_cons, List.length_nil, true_and, and_true, or_true, true_or, qX10_recalledNow, ms2.1, e42, nle, ms2.R5, ms2.K102, kd, p2, show nI (D.2.1 (a + 1 + k)) = nI l ↔ True from ⟨fun _ => trivial, fun _ => pkk.mpr e1⟩, not_true_eq_false, not_false_eq_true, false_implies, true_and, and_true, tti]
        refine ⟨vd, sX10_recalledNow_159 ms2.1 (e_mareKin md2 hm hl hd1 ?_)⟩
        simp only [cont, Option.toList, List.cons_append, List.nil_append]
        by_cases ki : kin (cel D f gv m l) (cel D f gv m (a + 1 + k))
        · have wi : wit D f gv m l (a + 1 + k) := ⟨wpp.mpr e1, kin_c.mp ki⟩
          rw [rcs_p wi, if_neg (by rw [r1]; omega), r1, Nat.add_sub_cancel] at nx
          refine rX10_recalledNow_162 ?_
          simp only [bX10_recalledNow_162, run, Nat.reduceAdd, lg, st1, st2, lkill, lset, fvv, sfv, kind3, cat1, retI, retA, List.length_cons, List.length_nil, true_and, and_true, or_true, true_or, qX10_recalledNow, if_pos ki, show ¬ (1 : Int32) = 0 by decide, not_true_eq_false, not_false_eq_true, false_implies, true_and, and_true, tti]
          refine rX10_recalledNow_168 ?_
          simp only [bX10_recalledNow_168, run, Nat.reduceAdd, lg, st1, st2, lkill, lset, fvv, sfv, kind3, cat1, retI, retA, List.length_cons, List.length_nil, true_and, and_true, or_true, true_or, qX10_recalledNow]
          refine sX10_recalledNow_175 ms2.1 (e_mwordOf ms2 (by omega) hm (md2.2 (a + 1 + k) hd1 m hm) ?_)
          simp only [cont, Option.toList, List.cons_append, List.nil_append]
          have len := cls_len (f := f) (ok a ha) (ok (a + 1 + k) hd1)
          refine sX10_recalledNow_178 ms2.1 (e_malignV ms2 md2.1.2.2.1 (ok a ha) (ok (a + 1 + k) hd1) fun h3 y3 e3 v3 co3 => ?_)
          simp only [cont, Option.toList, List.cons_append, List.nil_append]
          refine Ex.wf (fun w3 => ?_)
          have md3 := y3.a w2 md2
          have vm3 : VM h3 (rcs D f gv m l (a + 1 + k)).2 (cel D f gv m a).1.length := fun p hp s hs => by rw [v3]; exact vm p hp s hs
          refine rX10_recalledNow_181 ?_
          simp only [bX10_recalledNow_181, run, Nat.reduceAdd, lg, st1, st2, lkill, lset, fvv, sfv, kind3, cat1, retI, retA, List.length_cons, List.length_nil, true_and, and_true, or_true, true_or, qX10_recalledNow]
          refine e_rcCast md3.1.1 w3 (ok a ha).1 co3 len (fun k2 hk2 => ?_) (fun k2 hk2 => ngp_lt (ok a ha).2 hk2) vm3 (fun h4 z7 z8 y4 e4 vm4 => ?_)
          · have e9 : (cls f (cel D f gv m a).1 (cel D f gv m (a + 1 + k)).1).getD k2 (0, 0) ∈ cls f (cel D f gv m a).1 (cel D f gv m (a + 1 + k)).1 := by
              rw [List.getD_eq_getElem?_getD, List.getElem?_eq_getElem hk2]
              exact List.getElem_mem hk2
            exact clf_le _ _ _ (ok a ha).2 (ok (a + 1 + k) hd1).2 _ e9
          · refine rX10_recalledNow_240 ?_
            simp only [bX10_recalledNow_240, run, Nat.reduceAdd, lg, st1, st2, lkill, lset, fvv, sfv, kind3, cat1, retI, retA, List.length_cons, List.length_nil, true_and, and_true, or_true, true_or, qX10_recalledNow, nI_1]
            exact nx h4 _ _ _ _ ((y.tr y3).tr y4) (e4.trans (e3.trans e)) vm4
        · have wi : ¬ wit D f gv m l (a + 1 + k) := fun q => ki (kin_c.mp q.2)
          rw [rcs_n wi] at nx
          refine rX10_recalledNow_162 ?_
          simp only [bX10_recalledNow_162, run, Nat.reduceAdd, lg, st1, st2, lkill, lset, fvv, sfv, kind3, cat1, retI, retA, List.length_cons, List.length_nil, true_and, and_true, or_true, true_or, qX10_recalledNow, if_neg ki, nI_1, not_true_eq_false, not_false_eq_true, false_implies, true_and, and_true, tti]
          exact nx h2 _ _ _ _ y e vm
      · have wi : ¬ wit D f gv m l (a + 1 + k) := fun q => e1 (wpp.mp q.1)
        rw [rcs_n wi] at nx
        refine rX10_recalledNow_134 ?_
        simp only [bX10_recalledNow_134, run, Nat.reduceAdd, lg, st1, st2, lkill, lset, fvv, sfv, kind3, cat1, retI, retA, List.length_cons, List.length_nil, true_and, and_true, or_true, true_or, qX10_recalledNow, ms2.1, e42, nle, ms2.R5, ms2.K102, kd, p2, show nI (D.2.1 (a + 1 + k)) = nI l ↔ False from ⟨fun q => e1 (pkk.mp q), False.elim⟩, not_true_eq_false, not_false_eq_true, false_implies, true_and, and_true, tti]
        refine ⟨vd, ?_⟩
        refine rX10_recalledNow_240 ?_
        simp only [bX10_recalledNow_240, run, Nat.reduceAdd, lg, st1, st2, lkill, lset, fvv, sfv, kind3, cat1, retI, retA, List.length_cons, List.length_nil, true_and, and_true, or_true, true_or, qX10_recalledNow, nI_1]
        exact nx h2 _ _ _ _ y e vm
  -- the first daughter with a word of one origin
  have first : ∀ d x, d < D.1 → ((x = 0 ∧ ∀ k, d < k → k < D.1 → ¬ wit D f gv m l k) ∨ ∃ a, x = a + 1 ∧ d < a ∧ a < D.1 ∧ wit D f gv m l a ∧ ∀ k, d < k → k < a → ¬ wit D f gv m l k) → Ex g mX10_recalledNow 10 [vR 99, vI (nI l), vI (nI m), vI (bI x), vI (nI d), vU, vU, vU, vU, vU, vU] [] h (0, 0) Q := by
    intro d
    induction d with
    | zero =>
      intro x _ inv
      refine rX10_recalledNow_10 ?_
      simp only [bX10_recalledNow_10, run, Nat.reduceAdd, lg, st1, st2, lkill, lset, fvv, sfv, kind3, cat1, retI, retA, List.length_cons, List.length_nil, true_and, and_true, or_true, true_or, qX10_recalledNow, show nI 0 ≤ 0 ↔ True by decide, not_true_eq_false, not_false_eq_true, false_implies, true_and, and_true, tti]
      rcases inv with ⟨x0, nw⟩ | ⟨a, xa, a0, ha, wa, nw⟩
      · have z := hq h Mq.rf rfl
        unfold rcl at z
        rw [rcs_z D.1 (fun k hk => by
          by_cases k0 : k = 0
          · rw [k0]; exact w0
          · exact nw k (by omega) hk), if_pos rfl, wM_nil] at z
        refine rX10_recalledNow_46 ?_
        simp only [bX10_recalledNow_46, run, Nat.reduceAdd, lg, st1, st2, lkill, lset, fvv, sfv, kind3, cat1, retI, retA, List.length_cons, List.length_nil, true_and, and_true, or_true, true_or, qX10_recalledNow, x0, show bI 0 = -1 from bI_0, not_true_eq_false, not_false_eq_true, false_implies, true_and, and_true, tti]
        exact z
      · have na : ∀ k, k < a → ¬ wit D f gv m l k := fun k hk => by
          by_cases k0 : k = 0
          · rw [k0]; exact w0
          · exact nw k (by omega) hk
        rw [xa, bI_s]
        refine rX10_recalledNow_46 ?_
        simp only [bX10_recalledNow_46, run, Nat.reduceAdd, lg, st1, st2, lkill, lset, fvv, sfv, kind3, cat1, retI, retA, List.length_cons, List.length_nil, true_and, and_true, or_true, true_or, qX10_recalledNow, show nI a = -1 ↔ False from ⟨nI_m1 (by omega), False.elim⟩, not_true_eq_false, not_false_eq_true, false_implies, true_and, and_true, tti]
        refine rX10_recalledNow_53 ?_
        simp only [bX10_recalledNow_53, run, Nat.reduceAdd, lg, st1, st2, lkill, lset, fvv, sfv, kind3, cat1, retI, retA, List.length_cons, List.length_nil, true_and, and_true, or_true, true_or, qX10_recalledNow]
        refine sX10_recalledNow_56 ms.1 (e_mwordOf ms (by omega) hm (md.2 a ha m hm) ?_)
        simp only [cont, Option.toList, List.cons_append, List.nil_append]
        refine rX10_recalledNow_59 ?_
        simp only [bX10_recalledNow_59, run, Nat.reduceAdd, lg, st1, st2, lkill, lset, fvv, sfv, kind3, cat1, retI, retA, List.length_cons, List.length_nil, true_and, and_true, or_true, true_or, qX10_recalledNow]
        refine e_rcZero ms w (fun h2 z6 y2 e2 z2 => ?_)
        refine Ex.wf (fun w2 => ?_)
        refine e_rcOpen (y2.ms.s w ms) w2 (ok a ha) z2 (fun h3 z6 y3 e3 vm3 => ?_)
        refine rX10_recalledNow_129 ?_
        simp only [bX10_recalledNow_129, run, Nat.reduceAdd, lg, st1, st2, lkill, lset, fvv, sfv, kind3, cat1, retI, retA, List.length_cons, List.length_nil, true_and, and_true, or_true, true_or, qX10_recalledNow, nI_1]
        have r0 := (rcs_f wa na).1
        refine third a ha wa na (D.1 - (a + 1)) 0 (by omega) h3 _ _ _ _ (y2.tr y3) (by rw [e3, e2]) ?_
        rw [Nat.add_zero, r0]
        exact vm3
    | succ d ih =>
      intro x hd inv
      have p1 := par (d + 1) (by omega) hd
      have kd : (nI (d + 1)).toNatClampNeg = d + 1 := nI_clamp (by omega)
      have vd := vp_in_nI (show d + 1 < 10 by omega) (by omega : 10 < 2 ^ 31)
      have pkk := pk (d + 1) (by omega) hd
      have wpp := wp (d + 1) (by omega)
      have gt0 : nI (d + 1) ≤ 0 ↔ False := ⟨fun q => by have := (nI_leI (b := 0) (by omega) (by omega)).mp q; omega, False.elim⟩
      have skip : ¬ wit D f gv m l (d + 1) → Ex g mX10_recalledNow 40 [vR 99, vI (nI l), vI (nI m), vI (bI x), vI (nI (d + 1)), vU, vU, vU, vU, vU, vU] [] h (0, 0) Q := fun nw => by
        have z := ih x (by omega) (by
          rcases inv with ⟨x0, q⟩ | ⟨a, xa, a0, ha, wa, q⟩
          · refine Or.inl ⟨x0, fun k h1 h2 => ?_⟩
            by_cases e : k = d + 1
            · rw [e]; exact nw
            · exact q k (by omega) h2
          · refine Or.inr ⟨a, xa, by omega, ha, wa, fun k h1 h2 => ?_⟩
            by_cases e : k = d + 1
            · rw [e]; exact nw
            · exact q k (by omega) h2)
        refine rX10_recalledNow_40 ?_
        simp only [bX10_recalledNow_40, run, Nat.reduceAdd, lg, st1, st2, lkill, lset, fvv, sfv, kind3, cat1, retI, retA, List.length_cons, List.length_nil, true_and, and_true, or_true, true_or, qX10_recalledNow, nI_dec]
        exact z
      by_cases e1 : D.2.1 (d + 1) = l
      · refine rX10_recalledNow_10 ?_
        simp only [bX10_recalledNow_10, run, Nat.reduceAdd, lg, st1, st2, lkill, lset, fvv, sfv, kind3, cat1, retI, retA, List.length_cons, List.length_nil, true_and, and_true, or_true, true_or, qX10_recalledNow, gt0, ms.1, ms.R5, ms.K102, kd, p1, show nI (D.2.1 (d + 1)) = nI l ↔ True from ⟨fun _ => trivial, fun _ => pkk.mpr e1⟩, not_true_eq_false, not_false_eq_true, false_implies, true_and, and_true, tti]
        refine ⟨vd, sX10_recalledNow_31 ms.1 (e_mareKin md hm hl hd ?_)⟩
        simp only [cont, Option.toList, List.cons_append, List.nil_append]
        by_cases ki : kin (cel D f gv m l) (cel D f gv m (d + 1))
        · have wi : wit D f gv m l (d + 1) := ⟨wpp.mpr e1, kin_c.mp ki⟩
          have z := ih (d + 2) (by omega) (Or.inr ⟨d + 1, rfl, by omega, hd, wi, fun k h1 h2 => by omega⟩)
          rw [bI_s] at z
          refine rX10_recalledNow_34 ?_
          simp only [bX10_recalledNow_34, run, Nat.reduceAdd, lg, st1, st2, lkill, lset, fvv, sfv, kind3, cat1, retI, retA, List.length_cons, List.length_nil, true_and, and_true, or_true, true_or, qX10_recalledNow, if_pos ki, show ¬ (1 : Int32) = 0 by decide, nI_dec, not_true_eq_false, not_false_eq_true, false_implies, true_and, and_true, tti]
          exact z
        · refine rX10_recalledNow_34 ?_
          simp only [bX10_recalledNow_34, run, Nat.reduceAdd, lg, st1, st2, lkill, lset, fvv, sfv, kind3, cat1, retI, retA, List.length_cons, List.length_nil, true_and, and_true, or_true, true_or, qX10_recalledNow, if_neg ki, not_true_eq_false, not_false_eq_true, false_implies, true_and, and_true, tti]
          exact skip fun q => ki (kin_c.mp q.2)
      · refine rX10_recalledNow_10 ?_
        simp only [bX10_recalledNow_10, run, Nat.reduceAdd, lg, st1, st2, lkill, lset, fvv, sfv, kind3, cat1, retI, retA, List.length_cons, List.length_nil, true_and, and_true, or_true, true_or, qX10_recalledNow, gt0, ms.1, ms.R5, ms.K102, kd, p1, show nI (D.2.1 (d + 1)) = nI l ↔ False from ⟨fun q => e1 (pkk.mp q), False.elim⟩, not_true_eq_false, not_false_eq_true, false_implies, true_and, and_true, tti]
        exact ⟨vd, skip fun q => e1 (wpp.mp q.1)⟩
  obtain ⟨n, hn⟩ : ∃ n, D.1 = n + 1 := ⟨D.1 - 1, by omega⟩
  have z := first n 0 (by omega) (Or.inl ⟨rfl, fun k h1 h2 => by omega⟩)
  rw [bI_0] at z
  rw [hn] at e4
  refine rX10_recalledNow_0 ?_
  simp only [bX10_recalledNow_0, run, Nat.reduceAdd, lg, st1, st2, lkill, lset, fvv, sfv, kind3, cat1, retI, retA, List.length_cons, List.length_nil, true_and, and_true, or_true, true_or, qX10_recalledNow, ms.1, e4, nI_pred, not_true_eq_false, not_false_eq_true, false_implies, true_and, and_true, tti]
  exact z
