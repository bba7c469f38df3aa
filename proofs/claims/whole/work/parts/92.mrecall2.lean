theorem e_rcZero {g : Gp} {Q : PQ} {l m a : Nat} {w : Int64} {h : AH} (ms : ModS h) (wf : Wf h) {z7 z8 z9 z10 : AV}
    (out : ∀ h' z6, Mq h h' → zI h' 99 = zI h 99 → (∀ k, k < 170 → zI h' 121 k = 0) → Ex g mX10_recalledNow 88 [vR 99, vI (nI l), vI (nI m), vI (nI a), vL w, vU, vI z6, z7, z8, z9, z10] [] h' (0, 0) Q) :
    Ex g mX10_recalledNow 64 [vR 99, vI (nI l), vI (nI m), vI (nI a), vL w, vU, vI (nI 0), z7, z8, z9, z10] [] h (0, 0) Q := by
  have lp : ∀ d k, k + d = 170 → ∀ h2, Mq h h2 → zI h2 99 = zI h 99 → (∀ j, j < k → zI h2 121 j = 0) → Ex g mX10_recalledNow 64 [vR 99, vI (nI l), vI (nI m), vI (nI a), vL w, vU, vI (nI k), z7, z8, z9, z10] [] h2 (0, 0) Q := by
    intro d
    induction d with
    | zero =>
      intro k hk h2 y e z
      have e9 : k = 170 := by omega
      subst e9
      have ms2 := y.ms.s wf ms
      refine rX10_recalledNow_64 ?_
      simp only [bX10_recalledNow_64, run, Nat.reduceAdd, lg, st1, st2, lkill, lset, fvv, sfv, kind3, cat1, retI, retA, List.length_cons, List.length_nil, true_and, and_true, or_true, true_or, qX10_recalledNow, ms2.1, ms2.R26, ms2.K121, show nI 170 ≤ nI 170 ↔ True from ⟨fun _ => trivial, fun _ => nI_le (Nat.le_refl _) (by omega)⟩, not_true_eq_false, not_false_eq_true, false_implies, true_and, and_true, tti]
      exact ⟨⟨by decide, by decide⟩, out h2 _ y e z⟩
    | succ d ih =>
      intro k hk h2 y e z
      have ms2 := y.ms.s wf ms
      have kk : (nI k).toNatClampNeg = k := nI_clamp (by omega)
      refine rX10_recalledNow_64 ?_
      simp only [bX10_recalledNow_64, run, Nat.reduceAdd, lg, st1, st2, lkill, lset, fvv, sfv, kind3, cat1, retI, retA, List.length_cons, List.length_nil, true_and, and_true, or_true, true_or, qX10_recalledNow, ms2.1, ms2.R26, ms2.K121, show nI 170 ≤ nI k ↔ False from ⟨nI_ge (by omega) (by omega), False.elim⟩, kk, nI_1, not_true_eq_false, not_false_eq_true, false_implies, true_and, and_true, tti]
      refine ⟨⟨by decide, by decide⟩, vp_in_nI (by omega) (by omega), ih (k + 1) (by omega) _ (y.tr (Mq.wI (by decide) (by decide))) (by rw [zI_n (by decide)]; exact e) (fun j hj => ?_)⟩
      rw [zI_sI]
      by_cases e9 : j = k
      · rw [e9, up1_s]
      · rw [up1_n _ _ e9]; exact z j (by omega)
  exact lp 170 0 rfl h Mq.rf rfl fun j hj => absurd hj (Nat.not_lt_zero _)
theorem e_rcOpen {g : Gp} {Q : PQ} {l m a : Nat} {w : List Nat} {h : AH} (ms : ModS h) (wf : Wf h) (hw : Wok w) (z0 : ∀ k, k < 170 → zI h 121 k = 0) {z6 z7 z8 z9 z10 : AV}
    (out : ∀ h' z6, Mq h h' → zI h' 99 = zI h 99 → VM h' (opn w) w.length → Ex g mX10_recalledNow 129 [vR 99, vI (nI l), vI (nI m), vI (nI a), vL (wM w), vU, vI z6, z7, z8, z9, z10] [] h' (0, 0) Q) :
    Ex g mX10_recalledNow 88 [vR 99, vI (nI l), vI (nI m), vI (nI a), vL (wM w), vU, z6, z7, z8, z9, z10] [] h (0, 0) Q := by
  have w10 := hw.1
  have lp : ∀ d k, k + d = w.length → ∀ h2, Mq h h2 → zI h2 99 = zI h 99 → (∀ p, p < 10 → ∀ s, s < 17 → zI h2 121 (p * 17 + s) = if p < k then nI (opn w p s) else 0) → Ex g mX10_recalledNow 91 [vR 99, vI (nI l), vI (nI m), vI (nI a), vL (wM w), vU, vI (nI k), z7, z8, z9, z10] [] h2 (0, 0) Q := by
    intro d
    induction d with
    | zero =>
      intro k hk h2 y e z
      have e9 : k = w.length := by omega
      subst e9
      refine rX10_recalledNow_91 ?_
      simp only [bX10_recalledNow_91, run, Nat.reduceAdd, lg, st1, st2, lkill, lset, fvv, sfv, kind3, cat1, retI, retA, List.length_cons, List.length_nil, true_and, and_true, or_true, true_or, qX10_recalledNow]
      refine sX10_recalledNow_95 (e_mlen hw ?_)
      simp only [cont, Option.toList, List.cons_append, List.nil_append]
      refine rX10_recalledNow_98 ?_
      simp only [bX10_recalledNow_98, run, Nat.reduceAdd, lg, st1, st2, lkill, lset, fvv, sfv, kind3, cat1, retI, retA, List.length_cons, List.length_nil, true_and, and_true, or_true, true_or, qX10_recalledNow, show nI w.length ≤ nI w.length ↔ True from ⟨fun _ => trivial, fun _ => nI_le (Nat.le_refl _) (by omega)⟩, not_true_eq_false, not_false_eq_true, false_implies, true_and, and_true, tti]
      exact out h2 _ y e fun p hp s hs => by rw [z p (by omega) s hs, if_pos hp]
    | succ d ih =>
      intro k hk h2 y e z
      have ms2 := y.ms.s wf ms
      have hk1 : k < w.length := by omega
      have s16 := hw.at k
      have kk : (nI (k * 17 + w.getD k 0)).toNatClampNeg = k * 17 + w.getD k 0 := nI_clamp (by omega)
      have vk := vp_in_nI (show k * 17 + w.getD k 0 < 170 by omega) (by omega : 170 < 2 ^ 31)
      have zk := z k (by omega) (w.getD k 0) (by omega)
      rw [if_neg (Nat.lt_irrefl _)] at zk
      refine rX10_recalledNow_91 ?_
      simp only [bX10_recalledNow_91, run, Nat.reduceAdd, lg, st1, st2, lkill, lset, fvv, sfv, kind3, cat1, retI, retA, List.length_cons, List.length_nil, true_and, and_true, or_true, true_or, qX10_recalledNow]
      refine sX10_recalledNow_95 (e_mlen hw ?_)
      simp only [cont, Option.toList, List.cons_append, List.nil_append]
      refine rX10_recalledNow_98 ?_
      simp only [bX10_recalledNow_98, run, Nat.reduceAdd, lg, st1, st2, lkill, lset, fvv, sfv, kind3, cat1, retI, retA, List.length_cons, List.length_nil, true_and, and_true, or_true, true_or, qX10_recalledNow, show nI w.length ≤ nI k ↔ False from ⟨nI_ge (by omega) (by omega), False.elim⟩, ms2.1, ms2.R26, mk_17a, not_true_eq_false, not_false_eq_true, false_implies, true_and, and_true, tti]
      refine sX10_recalledNow_114 (e_mat hw hk1 ?_)
      simp only [cont, Option.toList, List.cons_append, List.nil_append]
      refine rX10_recalledNow_117 ?_
      simp only [bX10_recalledNow_117, run, Nat.reduceAdd, lg, st1, st2, lkill, lset, fvv, sfv, kind3, cat1, retI, retA, List.length_cons, List.length_nil, true_and, and_true, or_true, true_or, qX10_recalledNow, nI_add, ms2.K121, kk, zk, show (0 : Int32) + 1 = nI 1 by decide, nI_1, not_true_eq_false, not_false_eq_true, false_implies, true_and, and_true, tti]
      refine ⟨vk, vk, ih (k + 1) (by omega) _ (y.tr (Mq.wI (by decide) (by decide))) (by rw [zI_n (by decide)]; exact e) (fun p hp s hs => ?_)⟩
      rw [zI_sI]
      by_cases e9 : p = k ∧ s = w.getD k 0
      · rw [e9.1, e9.2, up1_s, if_pos (by omega)]
        unfold opn
        rw [if_pos rfl]
      · rw [up1_n _ _ (by omega), z p hp s hs]
        by_cases e8 : p < k
        · rw [if_pos e8, if_pos (by omega)]
        · rw [if_neg e8]
          by_cases e7 : p = k
          · rw [if_pos (by omega)]
            unfold opn
            rw [if_neg (fun q => e9 ⟨e7, by rw [q, e7]⟩)]
            rfl
          · rw [if_neg (by omega)]
  refine rX10_recalledNow_88 ?_
  simp only [bX10_recalledNow_88, run, Nat.reduceAdd, lg, st1, st2, lkill, lset, fvv, sfv, kind3, cat1, retI, retA, List.length_cons, List.length_nil, true_and, and_true, or_true, true_or, qX10_recalledNow]
  refine lp w.length 0 (Nat.zero_add _) h Mq.rf rfl fun p hp s hs => ?_
  rw [if_neg (Nat.not_lt_zero _)]
  exact z0 _ (by omega)
theorem e_rcCast {g : Gp} {Q : PQ} {l m a L : Nat} {w : Int64} {d6 : Int32} {cs : List (Nat × Nat)} {V : Nat → Nat → Nat} {h : AH} (ms : ModS h) (wf : Wf h) (hL : L ≤ 10) (co : CoM h cs) (len : cs.length ≤ 20) (le : ∀ k, k < cs.length → (cs.getD k (0, 0)).1 ≤ 16 ∧ (cs.getD k (0, 0)).2 ≤ 16) (pl : ∀ k, k < cs.length → ¬ (cs.getD k (0, 0)).1 = 16 → ngp cs k < L) (vm : VM h V L) {z9 z10 : AV}
    (out : ∀ h' z7 z8, Mq h h' → zI h' 99 0 = zI h 99 0 → VM h' (cas cs V cs.length) L → Ex g mX10_recalledNow 240 [vR 99, vI (nI l), vI (nI m), vI (nI a), vL w, vU, vI d6, vI z7, vI z8, z9, z10] [] h' (0, 0) Q) :
    Ex g mX10_recalledNow 188 [vR 99, vI (nI l), vI (nI m), vI (nI a), vL w, vU, vI d6, vI (nI 0), vI (nI 0), z9, z10] [] h (0, 0) Q := by
  have lp : ∀ d k, k + d = cs.length → ∀ h2, Mq h h2 → zI h2 99 0 = zI h 99 0 → CoM h2 cs → VM h2 (cas cs V k) L → Ex g mX10_recalledNow 188 [vR 99, vI (nI l), vI (nI m), vI (nI a), vL w, vU, vI d6, vI (nI (ngp cs k)), vI (nI k), z9, z10] [] h2 (0, 0) Q := by
    intro d
    induction d with
    | zero =>
      intro k hk h2 y e co2 vm2
      have e9 : k = cs.length := by omega
      subst e9
      have ms2 := y.ms.s wf ms
      refine rX10_recalledNow_188 ?_
      simp only [bX10_recalledNow_188, run, Nat.reduceAdd, lg, st1, st2, lkill, lset, fvv, sfv, kind3, cat1, retI, retA, List.length_cons, List.length_nil, true_and, and_true, or_true, true_or, qX10_recalledNow, ms2.1, co2.1, show nI cs.length ≤ nI cs.length ↔ True from ⟨fun _ => trivial, fun _ => nI_le (Nat.le_refl _) (by omega)⟩, not_true_eq_false, not_false_eq_true, false_implies, true_and, and_true, tti]
      exact out h2 _ _ y e vm2
    | succ d ih =>
      intro k hk h2 y e co2 vm2
      have hk1 : k < cs.length := by omega
      have ms2 := y.ms.s wf ms
      have nx := ih (k + 1) (by omega)
      rw [ngp, cas] at nx
      have pk := pl k hk1
      obtain ⟨le1, le2⟩ := le k hk1
      obtain ⟨c1, c2⟩ := co2.2 k hk1
      have nle : nI cs.length ≤ nI k ↔ False := ⟨nI_ge (by omega) (by omega), False.elim⟩
      have kk : (nI k).toNatClampNeg = k := nI_clamp (by omega)
      have vk := vp_in_nI (show k < 20 by omega) (by omega : 20 < 2 ^ 31)
      generalize cas cs V k = V2 at nx vm2
      generalize ngp cs k = p at nx pk
      generalize cs.getD k (0, 0) = ee at nx pk le1 le2 c1 c2
      have q16 : nI ee.1 = 16 ↔ ee.1 = 16 := nI_eq (b := 16) (by omega) (by decide)
      by_cases e16 : ee.1 = 16
      · rw [if_pos e16, if_pos e16] at nx
        refine rX10_recalledNow_188 ?_
        simp only [bX10_recalledNow_188, run, Nat.reduceAdd, lg, st1, st2, lkill, lset, fvv, sfv, kind3, cat1, retI, retA, List.length_cons, List.length_nil, true_and, and_true, or_true, true_or, qX10_recalledNow, ms2.1, co2.1, nle, ms2.R22, ms2.K117, kk, c1, show nI ee.1 = 16 ↔ True from ⟨fun _ => trivial, fun _ => q16.mpr e16⟩, not_true_eq_false, not_false_eq_true, false_implies, true_and, and_true, tti]
        refine ⟨vk, ?_⟩
        refine rX10_recalledNow_234 ?_
        simp only [bX10_recalledNow_234, run, Nat.reduceAdd, lg, st1, st2, lkill, lset, fvv, sfv, kind3, cat1, retI, retA, List.length_cons, List.length_nil, true_and, and_true, or_true, true_or, qX10_recalledNow, nI_1]
        exact nx h2 y e co2 vm2
      · have pL := pk e16
        rw [if_neg e16, if_neg e16] at nx
        have ki : (nI (p * 17 + ee.2)).toNatClampNeg = p * 17 + ee.2 := nI_clamp (by omega)
        have vi := vp_in_nI (show p * 17 + ee.2 < 170 by omega) (by omega : 170 < 2 ^ 31)
        have vv := vm2 p pL ee.2 (by omega)
        refine rX10_recalledNow_188 ?_
        simp only [bX10_recalledNow_188, run, Nat.reduceAdd, lg, st1, st2, lkill, lset, fvv, sfv, kind3, cat1, retI, retA, List.length_cons, List.length_nil, true_and, and_true, or_true, true_or, qX10_recalledNow, ms2.1, co2.1, nle, ms2.R22, ms2.K117, kk, c1, show nI ee.1 = 16 ↔ False from ⟨fun q => e16 (q16.mp q), False.elim⟩, ms2.R26, ms2.R23, ms2.K118, c2, mk_17, ms2.K121, ki, vv, nI_1, not_true_eq_false, not_false_eq_true, false_implies, true_and, and_true, tti]
        refine ⟨vk, vk, vi, vi, nx _ (y.tr (Mq.wI (by decide) (by decide))) (by rw [zI_n (by decide)]; exact e) ?_ (vm2.add (by omega))⟩
        unfold CoM
        rw [zI_n (show 99 ≠ 121 by decide), zI_n (show 117 ≠ 121 by decide), zI_n (show 118 ≠ 121 by decide)]
        exact co2
  exact lp cs.length 0 (Nat.zero_add _) h Mq.rf rfl co vm
theorem e_rcElect {g : Gp} {Q : PQ} {l m a : Nat} {w : List Nat} {V : Nat → Nat → Nat} {h : AH} (ms : ModS h) (hw : Wok w) (vm : VM h V w.length) (hV : ∀ p s, V p s ≤ 1000) (pos : ∀ p, 0 < V p (w.getD p 0)) {z6 z7 z8 z9 z10 : AV}
    (hq : Q (.inl (some (vL (wM (elc V w.length))))) h) : Ex g mX10_recalledNow 246 [vR 99, vI (nI l), vI (nI m), vI (nI a), vL (wM w), vU, z6, z7, z8, z9, z10] [] h (0, 0) Q := by
  have w10 := hw.1
  have lp : ∀ d p, p + d = w.length → ∀ z9 z10 : AV, Ex g mX10_recalledNow 252 [vR 99, vI (nI l), vI (nI m), vI (nI a), vL (wM w), vU, vL (wM (elc V p)), vU, vI (nI p), z9, z10] [] h (0, 0) Q := by
    intro d
    induction d with
    | zero =>
      intro p hp z9 z10
      have e9 : p = w.length := by omega
      subst e9
      refine rX10_recalledNow_252 ?_
      simp only [bX10_recalledNow_252, run, Nat.reduceAdd, lg, st1, st2, lkill, lset, fvv, sfv, kind3, cat1, retI, retA, List.length_cons, List.length_nil, true_and, and_true, or_true, true_or, qX10_recalledNow]
      refine sX10_recalledNow_256 (e_mlen hw ?_)
      simp only [cont, Option.toList, List.cons_append, List.nil_append]
      refine rX10_recalledNow_259 ?_
      simp only [bX10_recalledNow_259, run, Nat.reduceAdd, lg, st1, st2, lkill, lset, fvv, sfv, kind3, cat1, retI, retA, List.length_cons, List.length_nil, true_and, and_true, or_true, true_or, qX10_recalledNow, show nI w.length ≤ nI w.length ↔ True from ⟨fun _ => trivial, fun _ => nI_le (Nat.le_refl _) (by omega)⟩, not_true_eq_false, not_false_eq_true, false_implies, true_and, and_true, tti]
      refine rX10_recalledNow_339 ?_
      simp only [bX10_recalledNow_339, run, Nat.reduceAdd, lg, st1, st2, lkill, lset, fvv, sfv, kind3, cat1, retI, retA, List.length_cons, List.length_nil, true_and, and_true, or_true, true_or, qX10_recalledNow]
      exact hq
    | succ d ih =>
      intro p hp z9 z10
      have hp1 : p < w.length := by omega
      have nx := ih (p + 1) (by omega)
      rw [elc] at nx
      have s16 := hw.at p
      have e17 := wn_17 (c := V p) (show w.getD p 0 < 17 by omega) (pos p)
      rw [e17, Nat.add_sub_cancel] at nx
      have vp := vm p hp1
      have cb := hV p
      have bl := bm_le (V p)
      have wk := (elc_ok (V := V) p)
      have fin : ∀ b, b = bm (V p) 16 → ∀ z10, Ex g mX10_recalledNow 314 [vR 99, vI (nI l), vI (nI m), vI (nI a), vL (wM w), vU, vL (wM (elc V p)), vU, vI (nI p), vI (nI b), z10] [] h (0, 0) Q := by
        intro b hb z10
        have b16 : b ≤ 16 := by rw [hb]; exact bl 16
        rw [← hb] at nx
        have q16 : nI b = 16 ↔ b = 16 := nI_eq (b := 16) (by omega) (by decide)
        by_cases e16 : b = 16
        · rw [if_neg (by omega)] at nx
          refine rX10_recalledNow_314 ?_
          simp only [bX10_recalledNow_314, run, Nat.reduceAdd, lg, st1, st2, lkill, lset, fvv, sfv, kind3, cat1, retI, retA, List.length_cons, List.length_nil, true_and, and_true, or_true, true_or, qX10_recalledNow, show nI b = 16 ↔ True from ⟨fun _ => trivial, fun _ => q16.mpr e16⟩, not_true_eq_false, not_false_eq_true, false_implies, true_and, and_true, tti]
          refine rX10_recalledNow_333 ?_
          simp only [bX10_recalledNow_333, run, Nat.reduceAdd, lg, st1, st2, lkill, lset, fvv, sfv, kind3, cat1, retI, retA, List.length_cons, List.length_nil, true_and, and_true, or_true, true_or, qX10_recalledNow, nI_1]
          exact nx _ _
        · rw [if_pos (by omega), ← wM_plus (by omega)] at nx
          refine rX10_recalledNow_314 ?_
          simp only [bX10_recalledNow_314, run, Nat.reduceAdd, lg, st1, st2, lkill, lset, fvv, sfv, kind3, cat1, retI, retA, List.length_cons, List.length_nil, true_and, and_true, or_true, true_or, qX10_recalledNow, show nI b = 16 ↔ False from ⟨fun q => e16 (q16.mp q), False.elim⟩, nI_1, not_true_eq_false, not_false_eq_true, false_implies, true_and, and_true, tti]
          exact nx _ _
      generalize V p = c at vp cb bl fin
      have best : ∀ d t, t + d = 16 → Ex g mX10_recalledNow 268 [vR 99, vI (nI l), vI (nI m), vI (nI a), vL (wM w), vU, vL (wM (elc V p)), vU, vI (nI p), vI (nI (bm c t)), vI (nI (t + 1))] [] h (0, 0) Q := by
        intro d
        induction d with
        | zero =>
          intro t ht
          have e9 : t = 16 := by omega
          subst e9
          have z := fin _ rfl (vI (nI 17))
          refine rX10_recalledNow_268 ?_
          simp only [bX10_recalledNow_268, run, Nat.reduceAdd, lg, st1, st2, lkill, lset, fvv, sfv, kind3, cat1, retI, retA, List.length_cons, List.length_nil, true_and, and_true, or_true, true_or, qX10_recalledNow, show (16 : Int32) < nI (16 + 1) ↔ True by decide, not_true_eq_false, not_false_eq_true, false_implies, true_and, and_true, tti]
          exact z
        | succ d ih2 =>
          intro t ht
          have n2 := ih2 (t + 1) (by omega)
          rw [bm] at n2
          have bt := bl t
          generalize bm c t = b at n2 bt
          have v1 := vp (t + 1) (by omega)
          have v2 := vp b (by omega)
          have c1 := cb (t + 1)
          have c2 := cb b
          have k1 : (nI (p * 17 + (t + 1))).toNatClampNeg = p * 17 + (t + 1) := nI_clamp (by omega)
          have k2 : (nI (p * 17 + b)).toNatClampNeg = p * 17 + b := nI_clamp (by omega)
          have i1 := vp_in_nI (show p * 17 + (t + 1) < 170 by omega) (by omega : 170 < 2 ^ 31)
          have i2 := vp_in_nI (show p * 17 + b < 170 by omega) (by omega : 170 < 2 ^ 31)
          generalize c (t + 1) = x at n2 v1 c1
          generalize c b = y at n2 v2 c2
          have nlt : (16 : Int32) < nI (t + 1) ↔ False := ⟨nI_nlt (a := 16) (by omega) (by omega), False.elim⟩
          by_cases e : y < x
          · rw [if_pos e] at n2
            refine rX10_recalledNow_268 ?_
            simp only [bX10_recalledNow_268, run, Nat.reduceAdd, lg, st1, st2, lkill, lset, fvv, sfv, kind3, cat1, retI, retA, List.length_cons, List.length_nil, true_and, and_true, or_true, true_or, qX10_recalledNow, nlt, ms.1, ms.R26, ms.K121, mk_17, k1, k2, v1, v2, show nI x ≤ nI y ↔ False from ⟨nI_ge e (by omega), False.elim⟩, nI_1, not_true_eq_false, not_false_eq_true, false_implies, true_and, and_true, tti]
            exact ⟨i1, i2, n2⟩
          · rw [if_neg e] at n2
            refine rX10_recalledNow_268 ?_
            simp only [bX10_recalledNow_268, run, Nat.reduceAdd, lg, st1, st2, lkill, lset, fvv, sfv, kind3, cat1, retI, retA, List.length_cons, List.length_nil, true_and, and_true, or_true, true_or, qX10_recalledNow, nlt, ms.1, ms.R26, ms.K121, mk_17, k1, k2, v1, v2, show nI x ≤ nI y ↔ True from ⟨fun _ => trivial, fun _ => nI_le (by omega) (by omega)⟩, not_true_eq_false, not_false_eq_true, false_implies, true_and, and_true, tti]
            refine ⟨i1, i2, ?_⟩
            refine rX10_recalledNow_308 ?_
            simp only [bX10_recalledNow_308, run, Nat.reduceAdd, lg, st1, st2, lkill, lset, fvv, sfv, kind3, cat1, retI, retA, List.length_cons, List.length_nil, true_and, and_true, or_true, true_or, qX10_recalledNow, nI_1]
            exact n2
      refine rX10_recalledNow_252 ?_
      simp only [bX10_recalledNow_252, run, Nat.reduceAdd, lg, st1, st2, lkill, lset, fvv, sfv, kind3, cat1, retI, retA, List.length_cons, List.length_nil, true_and, and_true, or_true, true_or, qX10_recalledNow]
      refine sX10_recalledNow_256 (e_mlen hw ?_)
      simp only [cont, Option.toList, List.cons_append, List.nil_append]
      refine rX10_recalledNow_259 ?_
      simp only [bX10_recalledNow_259, run, Nat.reduceAdd, lg, st1, st2, lkill, lset, fvv, sfv, kind3, cat1, retI, retA, List.length_cons, List.length_nil, true_and, and_true, or_true, true_or, qX10_recalledNow, show nI w.length ≤ nI p ↔ False from ⟨nI_ge (by omega) (by omega), False.elim⟩, not_true_eq_false, not_false_eq_true, false_implies, true_and, and_true, tti]
      exact best 16 0 rfl
  refine rX10_recalledNow_246 ?_
  simp only [bX10_recalledNow_246, run, Nat.reduceAdd, lg, st1, st2, lkill, lset, fvv, sfv, kind3, cat1, retI, retA, List.length_cons, List.length_nil, true_and, and_true, or_true, true_or, qX10_recalledNow]
  have z := lp w.length 0 (Nat.zero_add _)
  rw [elc, wM_nil] at z
  exact z _ _
