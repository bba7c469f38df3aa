/-! ===== a word behind a law, by the model ===== -/
theorem e_mchanged {g : Gp} {f : Nat → Nat} {lw : Lw} {l : List Nat} {k : Nat} {h : AH} {Q : PQ} (ms : ModS h) (sn : SnM h f) (hw : LwM h k lw) (hk : k < 80) (hl : Wok l) (hq : Q (.inl (some (vL (wM (gov f lw l))))) h) : Ev g mX10_changed [vR 99, vL (wM l), vI (nI k)] h Q := by
  have hl1 := hl.1
  obtain ⟨⟨w1, w2, w3, w4⟩, k1, k2, k3, k4⟩ := hw
  refine nX10_changed ?_
  have kk : (nI k).toNatClampNeg = k := nI_clamp (by omega)
  have vk := vp_in_nI hk (by omega : 80 < 2 ^ 31)
  have lp : ∀ d p, p + d = l.length → ∀ x y z : AV, Ex g mX10_changed 12 [vR 99, vL (wM l), vU, vI (nI k), vI (nI l.length), vL (wM (mde f lw l p)), vU, vI (nI p), x, y, z] [] h (0, 0) Q := by
    intro d
    induction d with
    | zero =>
      intro p hp x y z
      have e : p = l.length := by omega
      subst e
      have hm := mde_wok (f := f) (w := lw) hl (Nat.le_refl _)
      unfold gov at hq
      refine rX10_changed_12 ?_
      simp only [bX10_changed_12, run, Nat.reduceAdd, lg, st1, st2, lkill, lset, fvv, sfv, kind3, cat1, retI, retA, List.length_cons, List.length_nil, true_and, and_true, or_true, true_or, qX10_changed, show nI l.length ≤ nI l.length ↔ True from ⟨fun _ => trivial, fun _ => nI_le (Nat.le_refl _) (by omega)⟩, not_true_eq_false, not_false_eq_true, false_implies, true_and, and_true, tti]
      by_cases e9 : mde f lw l l.length = []
      · rw [if_pos e9] at hq
        refine rX10_changed_182 ?_
        simp only [bX10_changed_182, run, Nat.reduceAdd, lg, st1, st2, lkill, lset, fvv, sfv, kind3, cat1, retI, retA, List.length_cons, List.length_nil, true_and, and_true, or_true, true_or, qX10_changed, lg_cmp_eq, show wM (mde f lw l l.length) = 1 ↔ True from ⟨fun _ => trivial, fun _ => (wM_1 hm).mpr e9⟩, not_true_eq_false, not_false_eq_true, false_implies, true_and, and_true, tti]
        exact hq
      · rw [if_neg e9] at hq
        refine rX10_changed_182 ?_
        simp only [bX10_changed_182, run, Nat.reduceAdd, lg, st1, st2, lkill, lset, fvv, sfv, kind3, cat1, retI, retA, List.length_cons, List.length_nil, true_and, and_true, or_true, true_or, qX10_changed, lg_cmp_eq, show wM (mde f lw l l.length) = 1 ↔ False from ⟨fun q => e9 ((wM_1 hm).mp q), False.elim⟩, not_true_eq_false, not_false_eq_true, false_implies, true_and, and_true, tti]
        refine rX10_changed_193 ?_
        simp only [bX10_changed_193, run, Nat.reduceAdd, lg, st1, st2, lkill, lset, fvv, sfv, kind3, cat1, retI, retA, List.length_cons, List.length_nil, true_and, and_true, or_true, true_or, qX10_changed]
        exact hq
    | succ d ih =>
      intro p hp x y z
      have hm := mde_wok (f := f) (w := lw) hl (p := p) (by omega)
      have hat := hl.at p
      have hp1 : p < l.length := by omega
      have next := ih (p + 1) (by omega)
      have f151 : ∀ (o : Option Nat) (y : Int32) (z : AV), o = opt f lw l p → Ex g mX10_changed 151 [vR 99, vL (wM l), vU, vI (nI k), vI (nI l.length), vL (wM (mde f lw l p)), vU, vI (nI p), vI (nI (l.getD p 0)), vI y, z] [vI (hI o)] h (0, 0) Q := by
        intro o y z ho
        cases o with
        | none =>
          have e1 : mde f lw l (p + 1) = mde f lw l p := by simp [mde, ← ho]
          rw [e1] at next
          refine rX10_changed_151 ?_
          simp only [bX10_changed_151, run, Nat.reduceAdd, lg, st1, st2, lkill, lset, fvv, sfv, kind3, cat1, retI, retA, List.length_cons, List.length_nil, true_and, and_true, or_true, true_or, qX10_changed, show hI none = -1 from rfl, not_true_eq_false, not_false_eq_true, false_implies, true_and, and_true, tti]
          refine rX10_changed_176 ?_
          simp only [bX10_changed_176, run, Nat.reduceAdd, lg, st1, st2, lkill, lset, fvv, sfv, kind3, cat1, retI, retA, List.length_cons, List.length_nil, true_and, and_true, or_true, true_or, qX10_changed, nI_1]
          exact next _ _ _
        | some t =>
          have ht := opt_lt hl ho.symm
          have e1 : mde f lw l (p + 1) = mde f lw l p ++ [t] := by simp [mde, ← ho]
          rw [e1] at next
          refine rX10_changed_151 ?_
          simp only [bX10_changed_151, run, Nat.reduceAdd, lg, st1, st2, lkill, lset, fvv, sfv, kind3, cat1, retI, retA, List.length_cons, List.length_nil, true_and, and_true, or_true, true_or, qX10_changed, show hI (some t) = nI t from rfl, show nI t = -1 ↔ False from ⟨nI_m1 (by omega), False.elim⟩, wM_plus ht, nI_1, not_true_eq_false, not_false_eq_true, false_implies, true_and, and_true, tti]
          exact next _ _ _
      have f154 : hld lw l p = false → ∀ y z : AV, Ex g mX10_changed 131 [vR 99, vL (wM l), vU, vI (nI k), vI (nI l.length), vL (wM (mde f lw l p)), vU, vI (nI p), vI (nI (l.getD p 0)), y, z] [] h (0, 0) Q := by
        intro hf y z
        have e1 : mde f lw l (p + 1) = mde f lw l p ++ [l.getD p 0] := by simp [mde, opt, hf]
        rw [e1] at next
        refine rX10_changed_131 ?_
        simp only [bX10_changed_131, run, Nat.reduceAdd, lg, st1, st2, lkill, lset, fvv, sfv, kind3, cat1, retI, retA, List.length_cons, List.length_nil, true_and, and_true, or_true, true_or, qX10_changed, not_true_eq_false, not_false_eq_true, false_implies, true_and, and_true, tti]
        refine rX10_changed_154 ?_
        simp only [bX10_changed_154, run, Nat.reduceAdd, lg, st1, st2, lkill, lset, fvv, sfv, kind3, cat1, retI, retA, List.length_cons, List.length_nil, true_and, and_true, or_true, true_or, qX10_changed, show nI (l.getD p 0) = -1 ↔ False from ⟨nI_m1 (by omega), False.elim⟩, wM_plus hat, nI_1, not_true_eq_false, not_false_eq_true, false_implies, true_and, and_true, tti]
        exact next _ _ _
      have f124 : ∀ B : Bool, (lw.1.testBit (l.getD p 0) && (lw.2.2.1 == 0 || lw.2.2.1.testBit (if p = 0 then 16 else l.getD (p - 1) 0))) = true → B = (lw.2.2.2 == 0 || lw.2.2.2.testBit (if p + 1 = l.length then 16 else l.getD (p + 1) 0)) → ∀ y z : AV, Ex g mX10_changed 124 [vR 99, vL (wM l), vU, vI (nI k), vI (nI l.length), vL (wM (mde f lw l p)), vU, vI (nI p), vI (nI (l.getD p 0)), y, z] [vI (bi B)] h (0, 0) Q := by
        intro B e1 e2 y z
        have eh : hld lw l p = B := by unfold hld; rw [e1, ← e2, Bool.true_and]
        cases B with
        | false =>
          refine rX10_changed_124 ?_
          simp only [bX10_changed_124, run, Nat.reduceAdd, lg, st1, st2, lkill, lset, fvv, sfv, kind3, cat1, retI, retA, List.length_cons, List.length_nil, true_and, and_true, or_true, true_or, qX10_changed, show bi false = 0 from rfl, not_true_eq_false, not_false_eq_true, false_implies, true_and, and_true, tti]
          exact f154 eh _ _
        | true =>
          refine rX10_changed_124 ?_
          simp only [bX10_changed_124, run, Nat.reduceAdd, lg, st1, st2, lkill, lset, fvv, sfv, kind3, cat1, retI, retA, List.length_cons, List.length_nil, true_and, and_true, or_true, true_or, qX10_changed, show ¬ bi true = 0 by decide, show ¬ (1 : Int32) = 0 by decide, ms.1, ms.R8, ms.K105, kk, k2, not_true_eq_false, not_false_eq_true, false_implies, true_and, and_true, tti]
          refine ⟨vk, sX10_changed_148 ms.1 (e_mturned ms sn w2 hat ?_)⟩
          simp only [cont, Option.toList, List.cons_append, List.nil_append]
          exact f151 _ _ _ (by unfold opt; rw [eh]; rfl)
      have f77 : ∀ B : Bool, lw.1.testBit (l.getD p 0) = true → B = (lw.2.2.1 == 0 || lw.2.2.1.testBit (if p = 0 then 16 else l.getD (p - 1) 0)) → ∀ y z : AV, Ex g mX10_changed 77 [vR 99, vL (wM l), vU, vI (nI k), vI (nI l.length), vL (wM (mde f lw l p)), vU, vI (nI p), vI (nI (l.getD p 0)), y, z] [vI (bi B)] h (0, 0) Q := by
        intro B e1 e2 y z
        cases B with
        | false =>
          refine rX10_changed_77 ?_
          simp only [bX10_changed_77, run, Nat.reduceAdd, lg, st1, st2, lkill, lset, fvv, sfv, kind3, cat1, retI, retA, List.length_cons, List.length_nil, true_and, and_true, or_true, true_or, qX10_changed, show bi false = 0 from rfl, not_true_eq_false, not_false_eq_true, false_implies, true_and, and_true, tti]
          exact f154 (by unfold hld; rw [e1, ← e2]; rfl) _ _
        | true =>
          have e12 : (lw.1.testBit (l.getD p 0) && (lw.2.2.1 == 0 || lw.2.2.1.testBit (if p = 0 then 16 else l.getD (p - 1) 0))) = true := by rw [e1, ← e2]; rfl
          obtain ⟨n, hn⟩ : ∃ n, l.length = n + 1 := ⟨l.length - 1, by omega⟩
          have pe : nI (n + 1) - 1 = nI n := nI_pred n
          by_cases ep : p = n
          · have eE : (if p + 1 = l.length then 16 else l.getD (p + 1) 0) = 16 := if_pos (by omega)
            rw [eE] at f124
            rw [hn] at f124 ⊢
            refine rX10_changed_77 ?_
            simp only [bX10_changed_77, run, Nat.reduceAdd, lg, st1, st2, lkill, lset, fvv, sfv, kind3, cat1, retI, retA, List.length_cons, List.length_nil, true_and, and_true, or_true, true_or, qX10_changed, show ¬ bi true = 0 by decide, ms.1, ms.R10, ms.K107, kk, k4, pe, ep, not_true_eq_false, not_false_eq_true, false_implies, true_and, and_true, tti]
            refine ⟨vk, ?_⟩
            rw [ep] at f124
            refine sX10_changed_121 (e_isBeside (s := 0) (E := true) (by decide) w4 ?_)
            simp only [cont, Option.toList, List.cons_append, List.nil_append]
            exact f124 _ (by rw [← ep]; exact e12) rfl _ _
          · have eE : (if p + 1 = l.length then 16 else l.getD (p + 1) 0) = l.getD (p + 1) 0 := if_neg (by omega)
            rw [eE] at f124
            have ne : nI p = nI n ↔ False := ⟨fun q => ep ((nI_eq (by omega) (by omega)).mp q), False.elim⟩
            rw [hn] at f124 ⊢
            refine rX10_changed_77 ?_
            simp only [bX10_changed_77, run, Nat.reduceAdd, lg, st1, st2, lkill, lset, fvv, sfv, kind3, cat1, retI, retA, List.length_cons, List.length_nil, true_and, and_true, or_true, true_or, qX10_changed, show ¬ bi true = 0 by decide, ms.1, ms.R10, ms.K107, kk, k4, pe, ne, not_true_eq_false, not_false_eq_true, false_implies, true_and, and_true, tti]
            refine ⟨vk, ?_⟩
            refine rX10_changed_99 ?_
            simp only [bX10_changed_99, run, Nat.reduceAdd, lg, st1, st2, lkill, lset, fvv, sfv, kind3, cat1, retI, retA, List.length_cons, List.length_nil, true_and, and_true, or_true, true_or, qX10_changed, pe, ne, not_true_eq_false, not_false_eq_true, false_implies, true_and, and_true, tti]
            refine rX10_changed_113 ?_
            simp only [bX10_changed_113, run, Nat.reduceAdd, lg, st1, st2, lkill, lset, fvv, sfv, kind3, cat1, retI, retA, List.length_cons, List.length_nil, true_and, and_true, or_true, true_or, qX10_changed, nI_1]
            refine sX10_changed_118 (e_mat hl (by omega) ?_)
            simp only [cont, Option.toList, List.cons_append, List.nil_append]
            refine sX10_changed_121 (e_isBeside (s := l.getD (p + 1) 0) (E := false) (hl.at _) w4 ?_)
            simp only [cont, Option.toList, List.cons_append, List.nil_append]
            exact f124 _ e12 rfl _ _
      refine rX10_changed_12 ?_
      simp only [bX10_changed_12, run, Nat.reduceAdd, lg, st1, st2, lkill, lset, fvv, sfv, kind3, cat1, retI, retA, List.length_cons, List.length_nil, true_and, and_true, or_true, true_or, qX10_changed, show nI l.length ≤ nI p ↔ False from ⟨nI_ge (by omega) (by omega), False.elim⟩, not_true_eq_false, not_false_eq_true, false_implies, true_and, and_true, tti]
      refine sX10_changed_22 (e_mat hl hp1 ?_)
      simp only [cont, Option.toList, List.cons_append, List.nil_append]
      cases c1 : lw.1.testBit (l.getD p 0) with
      | false =>
        refine rX10_changed_25 ?_
        simp only [bX10_changed_25, run, Nat.reduceAdd, lg, st1, st2, lkill, lset, fvv, sfv, kind3, cat1, retI, retA, List.length_cons, List.length_nil, true_and, and_true, or_true, true_or, qX10_changed, ms.1, ms.R7, ms.K104, kk, k1, show (nI lw.1 >>> (nI (l.getD p 0) &&& 31)) &&& 1 = 0 ↔ True from ⟨fun _ => trivial, fun _ => (m_bit (by omega)).mpr c1⟩, not_true_eq_false, not_false_eq_true, false_implies, true_and, and_true, tti]
        exact ⟨vk, f154 (by unfold hld; rw [c1]; rfl) _ _⟩
      | true =>
        have c2 : (nI lw.1 >>> (nI (l.getD p 0) &&& 31)) &&& 1 = 0 ↔ False := ⟨fun q => by have := (m_bit (by omega)).mp q; rw [c1] at this; exact Bool.noConfusion this, False.elim⟩
        by_cases ep : p = 0
        · have eE : (if p = 0 then 16 else l.getD (p - 1) 0) = 16 := if_pos ep
          rw [eE] at f77
          subst ep
          refine rX10_changed_25 ?_
          simp only [bX10_changed_25, run, Nat.reduceAdd, lg, st1, st2, lkill, lset, fvv, sfv, kind3, cat1, retI, retA, List.length_cons, List.length_nil, true_and, and_true, or_true, true_or, qX10_changed, ms.1, ms.R7, ms.K104, kk, k1, c2, ms.R9, ms.K106, k3, show nI 0 = 0 from rfl, not_true_eq_false, not_false_eq_true, false_implies, true_and, and_true, tti]
          refine ⟨vk, vk, ?_⟩
          refine sX10_changed_74 (e_isBeside (s := 0) (E := true) (by decide) w3 ?_)
          simp only [cont, Option.toList, List.cons_append, List.nil_append]
          exact f77 _ c1 rfl _ _
        · have eE : (if p = 0 then 16 else l.getD (p - 1) 0) = l.getD (p - 1) 0 := if_neg ep
          rw [eE] at f77
          have ne : nI p = 0 ↔ False := ⟨fun q => ep ((nI_eq (b := 0) (by omega) (by omega)).mp q), False.elim⟩
          obtain ⟨n, rfl⟩ : ∃ n, p = n + 1 := ⟨p - 1, by omega⟩
          refine rX10_changed_25 ?_
          simp only [bX10_changed_25, run, Nat.reduceAdd, lg, st1, st2, lkill, lset, fvv, sfv, kind3, cat1, retI, retA, List.length_cons, List.length_nil, true_and, and_true, or_true, true_or, qX10_changed, ms.1, ms.R7, ms.K104, kk, k1, c2, ms.R9, ms.K106, k3, ne, not_true_eq_false, not_false_eq_true, false_implies, true_and, and_true, tti]
          refine ⟨vk, vk, ?_⟩
          refine rX10_changed_56 ?_
          simp only [bX10_changed_56, run, Nat.reduceAdd, lg, st1, st2, lkill, lset, fvv, sfv, kind3, cat1, retI, retA, List.length_cons, List.length_nil, true_and, and_true, or_true, true_or, qX10_changed, ne, not_true_eq_false, not_false_eq_true, false_implies, true_and, and_true, tti]
          refine rX10_changed_66 ?_
          simp only [bX10_changed_66, run, Nat.reduceAdd, lg, st1, st2, lkill, lset, fvv, sfv, kind3, cat1, retI, retA, List.length_cons, List.length_nil, true_and, and_true, or_true, true_or, qX10_changed, show nI (n + 1) - 1 = nI n from nI_pred n, not_true_eq_false, not_false_eq_true, false_implies, true_and, and_true, tti]
          refine sX10_changed_71 (e_mat hl (by omega) ?_)
          simp only [cont, Option.toList, List.cons_append, List.nil_append]
          refine sX10_changed_74 (e_isBeside (s := l.getD n 0) (E := false) (hl.at _) w3 ?_)
          simp only [cont, Option.toList, List.cons_append, List.nil_append]
          exact f77 _ c1 rfl _ _
  refine rX10_changed_0 ?_
  simp only [bX10_changed_0, run, Nat.reduceAdd, lg, st1, st2, lkill, lset, fvv, sfv, kind3, cat1, retI, retA, List.length_cons, List.length_nil, true_and, and_true, or_true, true_or, qX10_changed]
  refine sX10_changed_1 (e_mlen hl ?_)
  simp only [cont, Option.toList, List.cons_append, List.nil_append]
  refine rX10_changed_4 ?_
  simp only [bX10_changed_4, run, Nat.reduceAdd, lg, st1, st2, lkill, lset, fvv, sfv, kind3, cat1, retI, retA, List.length_cons, List.length_nil, true_and, and_true, or_true, true_or, qX10_changed]
  have z := lp l.length 0 (by omega) vU vU vU
  rw [show mde f lw l 0 = [] from rfl, wM_nil] at z
  exact z
