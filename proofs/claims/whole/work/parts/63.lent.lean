/-! ===== withoutLoan, looksLent ===== -/
def lacN (D : HD) (i : Nat) : HD := (D.1, D.2.1, D.2.2.1, D.2.2.2.eraseIdx i)
theorem lacN_ok {D : HD} {i : Nat} (h : hdOk D) : hdOk (lacN D i) := by
  obtain ⟨h1, h2, h3, h4, h5, h6⟩ := h
  refine ⟨h1, h2, h3, h4, ?_, fun j hj => ?_⟩
  · show (D.2.2.2.eraseIdx i).length ≤ 12
    rw [List.length_eraseIdx]
    split <;> omega
  · change j < (D.2.2.2.eraseIdx i).length at hj
    show ((D.2.2.2.eraseIdx i).getD j w0).1 < 12 ∧ _
    rw [List.length_eraseIdx] at hj
    rw [show (lacN D i).2.2.2 = D.2.2.2.eraseIdx i from rfl, getD_ers]
    split at hj
    · split
      · exact h6 j (by omega)
      · exact h6 (j + 1) (by omega)
    · rw [if_pos (by omega)]
      exact h6 j hj
theorem noL_ok {D : HD} (h : hdOk D) : hdOk (noL D) := by
  obtain ⟨h1, h2, h3, h4, h5, h6⟩ := h
  exact ⟨h1, h2, h3, h4, Nat.zero_le _, fun j hj => absurd hj (Nat.not_lt_zero _)⟩
theorem e_withoutLoan {g : Gp} {x : Int32} {h : AH} {Q : PQ} {f : Nat → Nat} {gv : Nat → List Nat} {op : Nat} {D : HD} (hf : FamR h f gv op D)
    (hq : ∀ i, i < D.2.2.2.length → x = nI i → ∀ h', Fc h h' → FamR h' f gv op D → Q (.inl (some (vI (nI (cdf (fun l => (cel D f gv (D.2.2.2.getD i w0).1 l).1) (fun l => (cel (lacN D i) f gv (D.2.2.2.getD i w0).1 l).1) D.1))))) h')
    (hx : inb x D.2.2.2.length = false → ∀ n, zN h ≤ n → Q (.inr 1) (bump h n)) : Ev g mX9_withoutLoan [vR 4, vI x] h Q := by
  have hb := hf.b
  have hD := hb.ok
  have hD1 := hD.2.1
  have hD5 := hD.2.2.2.2.1
  refine nX9_withoutLoan ?_
  refine Ex.wf (fun w => ?_)
  obtain ⟨c1, c2, c3, c4, e, xs, c5, c6, c7⟩ := hb.lns
  have bad : inb x D.2.2.2.length = false → Ex g mX9_withoutLoan 22 [vR 4, vI x, vU, vU, vU] [] h (0, 0) Q := fun e => by
    refine rX9_withoutLoan_22 ?_
    simp only [bX9_withoutLoan_22, run, Nat.reduceAdd, lg, st1, st2, lkill, lset, fvv, sfv, kind3, cat1, retI, retA, List.length_cons, List.length_nil, true_and, and_true, or_true, true_or, qX9_withoutLoan]
    exact sX9_withoutLoan_23 (by decide) (e_requireThere (fun q => absurd rfl q) fun _ n hn => hx e n hn)
  refine rX9_withoutLoan_0 ?_
  simp only [bX9_withoutLoan_0, run, Nat.reduceAdd, lg, st1, st2, lkill, lset, fvv, sfv, kind3, cat1, retI, retA, List.length_cons, List.length_nil, true_and, and_true, or_true, true_or, qX9_withoutLoan, c1, c2, c3, c4, not_true_eq_false, not_false_eq_true, false_implies, true_and, and_true, tti]
  refine ⟨fun q => bad (by simp [inb, q]), fun q => sX9_withoutLoan_12 c5.1 (l_size c5 ?_)⟩
  simp only [cont, Option.toList, List.cons_append, List.nil_append]
  rw [c6]
  refine rX9_withoutLoan_15 ?_
  simp only [bX9_withoutLoan_15, run, Nat.reduceAdd, lg, st1, st2, lkill, lset, fvv, sfv, kind3, cat1, retI, retA, List.length_cons, List.length_nil, true_and, and_true, or_true, true_or, qX9_withoutLoan]
  refine ⟨fun q2 => bad (by simp [inb, q2]), fun q2 => ?_⟩
  have h1 : inb x D.2.2.2.length = true := by simp only [inb, q, q2, not_false_eq_true, decide_true, Bool.true_and]
  obtain ⟨i, hi, rfl⟩ := inb_t (by omega) h1
  refine sX9_withoutLoan_23 (by decide) (e_requireThere (fun _ => ?_) fun q => absurd q (by decide))
  simp only [cont, Option.toList, List.cons_append, List.nil_append]
  refine rX9_withoutLoan_26 ?_
  simp only [bX9_withoutLoan_26, run, Nat.reduceAdd, lg, st1, st2, lkill, lset, fvv, sfv, kind3, cat1, retI, retA, List.length_cons, List.length_nil, true_and, and_true, or_true, true_or, qX9_withoutLoan, c1, c2, c3, c4, not_true_eq_false, not_false_eq_true, false_implies, true_and, and_true, tti]
  refine sX9_withoutLoan_34 c5.1 (l_get c5 (by omega) ?_)
  simp only [cont, Option.toList, List.cons_append, List.nil_append]
  have lgl := c7 i hi
  have hm : (D.2.2.2.getD i w0).1 < 12 := (hD.2.2.2.2.2 i hi).1
  have hq' := hq i hi rfl
  generalize hme : (D.2.2.2.getD i w0).1 = m at hm hq'
  have lgm := lgl.2.1
  rw [hme] at lgm
  refine rX9_withoutLoan_37 ?_
  simp only [bX9_withoutLoan_37, run, Nat.reduceAdd, lg, st1, st2, lkill, lset, fvv, sfv, kind3, cat1, retI, retA, List.length_cons, List.length_nil, true_and, and_true, or_true, true_or, qX9_withoutLoan, lgl.1, lgm, hb.1.1.1, hb.1.1.2.2.2.2.1, not_true_eq_false, not_false_eq_true, false_implies, true_and, and_true, tti]
  refine sX9_withoutLoan_49 hb.2.2.1.2.1 (e_fr1 w hf hm fun h2 fc kn => ?_)
  simp only [cont, Option.toList, List.cons_append, List.nil_append]
  refine Ex.wf (fun w2 => ?_)
  have hb2 := kn.1.b
  have hs2 := hb2.2.2.1.1
  refine rX9_withoutLoan_52 ?_
  simp only [bX9_withoutLoan_52, run, Nat.reduceAdd, lg, st1, st2, lkill, lset, fvv, sfv, kind3, cat1, retI, retA, List.length_cons, List.length_nil, true_and, and_true, or_true, true_or, qX9_withoutLoan, hb2.1.1.1, hb2.1.1.2.2.2.2.2.2.1, hb2.1.1.2.2.2.1, not_true_eq_false, not_false_eq_true, false_implies, true_and, and_true, tti]
  refine sX9_withoutLoan_61 (by decide) hs2.1 (e_lackingLoan hs2 hD hi fun h3 c k3 hs3 => ?_)
  simp only [cont, Option.toList, List.cons_append, List.nil_append]
  refine Ex.wf (fun w3 => ?_)
  have ks3 := Kn.ks w2 hb2.2.2.2.2.1 k3
  have kn3 := ks3.kn1 w2 kn
  have lx3 := ks3.2
  refine sX9_withoutLoan_64 lx3.1 (e_tellOf lx3 hs3.1 fun h4 k4 lx4 r4 z4 => ?_)
  simp only [cont, Option.toList, List.cons_append, List.nil_append]
  refine Ex.wf (fun w4 => ?_)
  have ks4 : Ks h3 h4 := ⟨k4.mono fun a _ q => by omega, lx4⟩
  have kh4 : Kh h3 h4 := k4.mono fun a _ q => by
    rcases q with q | q
    · rw [q, lx3.1]; unfold hk; decide
    · rw [q, lx3.2.2.2.2.2.2.2.2.2.2.1]; unfold hk; decide
  have kn4 := ks4.kn1 w3 kn3
  have hb4 := kn4.1.b
  have hs4 : HsR h4 (zR h4 43 0) (lacN D i) := by rw [r4]; exact hs3.kh w3 kh4
  have ok4 := lacN_ok (i := i) hD
  refine rX9_withoutLoan_67 ?_
  simp only [bX9_withoutLoan_67, run, Nat.reduceAdd, lg, st1, st2, lkill, lset, fvv, sfv, kind3, cat1, retI, retA, List.length_cons, List.length_nil, true_and, and_true, or_true, true_or, qX9_withoutLoan, hb4.1.1.1, hb4.1.1.2.2.2.2.2.2.1, not_true_eq_false, not_false_eq_true, false_implies, true_and, and_true, tti]
  refine sX9_withoutLoan_72 lx4.1 (e_freshen (x := 43) (b := 44) (D := lacN D i) ⟨lx4, fun m hm => Or.inl (z4 m hm)⟩ hs4 ok4 hb4.2.1.1 hb4.2.1.2 hm fun h5 k5 lx5 f5 _ => ?_)
  simp only [cont, Option.toList, List.cons_append, List.nil_append]
  have ks5 : Ks h4 h5 := ⟨k5.mono fun a _ q => by omega, lx5.1⟩
  have kn5 := ks5.kn1 w4 kn4
  have hb5 := kn5.1.b
  have gm := (hb5.2.1.2.2 m hm).1
  have sp5 : ∀ l, l < D.1 → CR h5 44 (l * 12 + m) (cel (lacN D i) f gv m l) := ((lx5.2 m hm).resolve_left (by rw [f5]; decide)).2
  have z := hq' h5 (fc.tr ((ks3.tr ks4).tr ks5).fc) kn5.1
  obtain ⟨c1, c2, c3, c4, e, xs, c5, c6, c7⟩ := hb5.lgs
  have lp : ∀ u, ∀ d k, k + d = D.1 → Ex g mX9_withoutLoan 80 [vR 4, vI (nI i), vI (nI m), vI (nI (cdf (fun l => (cel D f gv m l).1) (fun l => (cel (lacN D i) f gv m l).1) k)), vI (nI k)] [] h5 u Q := by
    intro u d
    induction d with
    | zero =>
      intro k hk
      have e : k = D.1 := by omega
      subst e
      refine rX9_withoutLoan_80 ?_
      simp only [bX9_withoutLoan_80, run, Nat.reduceAdd, lg, st1, st2, lkill, lset, fvv, sfv, kind3, cat1, retI, retA, List.length_cons, List.length_nil, true_and, and_true, or_true, true_or, qX9_withoutLoan, c1, c2, c3, c4, not_true_eq_false, not_false_eq_true, false_implies, true_and, and_true, tti]
      refine sX9_withoutLoan_89 c5.1 (l_size c5 ?_)
      simp only [cont, Option.toList, List.cons_append, List.nil_append]
      rw [c6]
      refine rX9_withoutLoan_92 ?_
      simp only [bX9_withoutLoan_92, run, Nat.reduceAdd, lg, st1, st2, lkill, lset, fvv, sfv, kind3, cat1, retI, retA, List.length_cons, List.length_nil, true_and, and_true, or_true, true_or, qX9_withoutLoan, show nI D.1 ≤ nI D.1 ↔ True from ⟨fun _ => trivial, fun _ => nI_le (Nat.le_refl _) (by omega)⟩, not_true_eq_false, not_false_eq_true, false_implies, true_and, and_true, tti]
      refine rX9_withoutLoan_118 ?_
      simp only [bX9_withoutLoan_118, run, Nat.reduceAdd, lg, st1, st2, lkill, lset, fvv, sfv, kind3, cat1, retI, retA, List.length_cons, List.length_nil, true_and, and_true, or_true, true_or, qX9_withoutLoan]
      exact z
    | succ d ih =>
      intro k hk
      have hk1 : k < D.1 := by omega
      have nx := ih (k + 1) (by omega)
      rw [cdf] at nx
      refine rX9_withoutLoan_80 ?_
      simp only [bX9_withoutLoan_80, run, Nat.reduceAdd, lg, st1, st2, lkill, lset, fvv, sfv, kind3, cat1, retI, retA, List.length_cons, List.length_nil, true_and, and_true, or_true, true_or, qX9_withoutLoan, c1, c2, c3, c4, not_true_eq_false, not_false_eq_true, false_implies, true_and, and_true, tti]
      refine sX9_withoutLoan_89 c5.1 (l_size c5 ?_)
      simp only [cont, Option.toList, List.cons_append, List.nil_append]
      rw [c6]
      refine rX9_withoutLoan_92 ?_
      simp only [bX9_withoutLoan_92, run, Nat.reduceAdd, lg, st1, st2, lkill, lset, fvv, sfv, kind3, cat1, retI, retA, List.length_cons, List.length_nil, true_and, and_true, or_true, true_or, qX9_withoutLoan, show nI D.1 ≤ nI k ↔ False from ⟨nI_ge (by omega) (by omega), False.elim⟩, hb5.1.1.1, hb5.1.1.2.2.2.2.2.2.1, not_true_eq_false, not_false_eq_true, false_implies, true_and, and_true, tti]
      refine sX9_withoutLoan_103 hb5.lgs.1 (e_differs hb5 lx5.1 (by omega) hm (kn5.2 k hk1) (sp5 k hk1) (kn5.ok hm hk1).1 (cel_ok ok4 gm hk1).1 ?_)
      simp only [cont, Option.toList, List.cons_append, List.nil_append]
      by_cases hw : (cel D f gv m k).1 = (cel (lacN D i) f gv m k).1
      · rw [if_pos hw] at nx
        refine rX9_withoutLoan_106 ?_
        simp only [bX9_withoutLoan_106, run, Nat.reduceAdd, lg, st1, st2, lkill, lset, fvv, sfv, kind3, cat1, retI, retA, List.length_cons, List.length_nil, true_and, and_true, or_true, true_or, qX9_withoutLoan, if_pos hw, not_true_eq_false, not_false_eq_true, false_implies, true_and, and_true, tti]
        refine rX9_withoutLoan_112 ?_
        simp only [bX9_withoutLoan_112, run, Nat.reduceAdd, lg, st1, st2, lkill, lset, fvv, sfv, kind3, cat1, retI, retA, List.length_cons, List.length_nil, true_and, and_true, or_true, true_or, qX9_withoutLoan, nI_1]
        exact nx
      · rw [if_neg hw] at nx
        refine rX9_withoutLoan_106 ?_
        simp only [bX9_withoutLoan_106, run, Nat.reduceAdd, lg, st1, st2, lkill, lset, fvv, sfv, kind3, cat1, retI, retA, List.length_cons, List.length_nil, true_and, and_true, or_true, true_or, qX9_withoutLoan, if_neg hw, show ¬ (1 : Int32) = 0 by decide, nI_1, not_true_eq_false, not_false_eq_true, false_implies, true_and, and_true, tti]
        exact nx
  refine rX9_withoutLoan_75 ?_
  simp only [bX9_withoutLoan_75, run, Nat.reduceAdd, lg, st1, st2, lkill, lset, fvv, sfv, kind3, cat1, retI, retA, List.length_cons, List.length_nil, true_and, and_true, or_true, true_or, qX9_withoutLoan]
  exact lp _ D.1 0 (Nat.zero_add _)
