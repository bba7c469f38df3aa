/-! ===== swapped, without ===== -/
theorem swp_len {i : Nat} {ws : List Lw} (hi : i < ws.length) : (swp i ws).length = ws.length := by
  unfold swp
  rw [List.length_append, List.length_cons, List.length_take, List.length_drop, List.length_eraseIdx, if_pos hi]
  omega
theorem e_swapped {g : Gp} {x y : Int32} {h : AH} {Q : PQ} {f : Nat → Nat} {gv : Nat → List Nat} {op : Nat} {D : HD} (hf : FamR h f gv op D)
    (hq : ∀ l i, l < D.1 → i + 1 < (D.2.2.1 l).length → x = nI l → y = nI i → ∀ h', Fc h h' → FamR h' f gv op D → Q (.inl (some (vI (nI (cdf (fun m => (cel D f gv m l).1) (fun m => (cel (setW D l (swp i (D.2.2.1 l))) f gv m l).1) 12))))) h')
    (hx : inb x D.1 = false → ∀ n, zN h ≤ n → Q (.inr 1) (bump h n))
    (hx1 : ∀ l, l < D.1 → x = nI l → inb y (D.2.2.1 l).length = false → ∀ n, zN h ≤ n → Q (.inr 1) (bump h n))
    (hx2 : ∀ l, l < D.1 → x = nI l → ∀ i, i + 1 = (D.2.2.1 l).length → y = nI i → ∀ n, zN h ≤ n → Q (.inr 2) (bump h n)) : Ev g mX9_swapped [vR 4, vI x, vI y] h Q := by
  have hb := hf.b
  have hD := hb.ok
  have hD1 := hD.2.1
  refine nX9_swapped ?_
  refine Ex.wf (fun w => ?_)
  have bad : (∀ n, zN h ≤ n → Q (.inr 1) (bump h n)) → Ex g mX9_swapped 21 [vR 4, vI x, vI y] [] h (0, 0) Q := fun e => by
    refine rX9_swapped_21 ?_
    simp only [bX9_swapped_21, run, Nat.reduceAdd, lg, st1, st2, lkill, lset, fvv, sfv, kind3, cat1, retI, retA, List.length_cons, List.length_nil, true_and, and_true, or_true, true_or, qX9_swapped]
    exact sX9_swapped_22 (by decide) (e_requireThere (fun q => absurd rfl q) fun _ n hn => e n hn)
  refine rX9_swapped_0 ?_
  simp only [bX9_swapped_0, run, Nat.reduceAdd, lg, st1, st2, lkill, lset, fvv, sfv, kind3, cat1, retI, retA, List.length_cons, List.length_nil, true_and, and_true, or_true, true_or, qX9_swapped]
  refine sX9_swapped_2 hb.lgs.1 (e_isLanguage hb ?_)
  simp only [cont, Option.toList, List.cons_append, List.nil_append]
  cases h1 : inb x D.1 with
  | false =>
    refine rX9_swapped_5 ?_
    simp only [bX9_swapped_5, run, Nat.reduceAdd, lg, st1, st2, lkill, lset, fvv, sfv, kind3, cat1, retI, retA, List.length_cons, List.length_nil, true_and, and_true, or_true, true_or, qX9_swapped, show bi false = 0 from rfl, not_true_eq_false, not_false_eq_true, false_implies, true_and, and_true, tti]
    exact bad (hx h1)
  | true =>
    obtain ⟨l, hl, rfl⟩ := inb_t (by omega) h1
    have l8 := hD.2.2.2.1 l hl
    refine rX9_swapped_5 ?_
    simp only [bX9_swapped_5, run, Nat.reduceAdd, lg, st1, st2, lkill, lset, fvv, sfv, kind3, cat1, retI, retA, List.length_cons, List.length_nil, true_and, and_true, or_true, true_or, qX9_swapped, show ¬ bi true = 0 by decide, not_true_eq_false, not_false_eq_true, false_implies, true_and, and_true, tti]
    refine sX9_swapped_11 hb.lgs.1 (e_isLaw hb hl ?_)
    simp only [cont, Option.toList, List.cons_append, List.nil_append]
    cases h2 : inb y (D.2.2.1 l).length with
    | false =>
      refine rX9_swapped_14 ?_
      simp only [bX9_swapped_14, run, Nat.reduceAdd, lg, st1, st2, lkill, lset, fvv, sfv, kind3, cat1, retI, retA, List.length_cons, List.length_nil, true_and, and_true, or_true, true_or, qX9_swapped, show bi false = 0 from rfl, not_true_eq_false, not_false_eq_true, false_implies, true_and, and_true, tti]
      exact bad (hx1 l hl rfl h2)
    | true =>
      obtain ⟨i, hi, rfl⟩ := inb_t (by omega) h2
      refine rX9_swapped_14 ?_
      simp only [bX9_swapped_14, run, Nat.reduceAdd, lg, st1, st2, lkill, lset, fvv, sfv, kind3, cat1, retI, retA, List.length_cons, List.length_nil, true_and, and_true, or_true, true_or, qX9_swapped, show ¬ bi true = 0 by decide, not_true_eq_false, not_false_eq_true, false_implies, true_and, and_true, tti]
      refine sX9_swapped_22 (by decide) (e_requireThere (fun _ => ?_) fun q => absurd q (by decide))
      simp only [cont, Option.toList, List.cons_append, List.nil_append]
      refine rX9_swapped_25 ?_
      simp only [bX9_swapped_25, run, Nat.reduceAdd, lg, st1, st2, lkill, lset, fvv, sfv, kind3, cat1, retI, retA, List.length_cons, List.length_nil, true_and, and_true, or_true, true_or, qX9_swapped, nI_1]
      refine sX9_swapped_30 hb.lgs.1 (e_lawsOf hb hl fun y2 a e ys _ _ _ d3 d4 _ => ?_)
      simp only [cont, Option.toList, List.cons_append, List.nil_append]
      refine sX9_swapped_33 d3.1 (l_size d3 ?_)
      simp only [cont, Option.toList, List.cons_append, List.nil_append]
      rw [d4]
      by_cases e1 : i + 1 < (D.2.2.1 l).length
      · refine rX9_swapped_36 ?_
        simp only [bX9_swapped_36, run, Nat.reduceAdd, lg, st1, st2, lkill, lset, fvv, sfv, kind3, cat1, retI, retA, List.length_cons, List.length_nil, true_and, and_true, or_true, true_or, qX9_swapped, show nI (D.2.2.1 l).length ≤ nI (i + 1) ↔ False from ⟨nI_ge (by omega) (by omega), False.elim⟩, not_true_eq_false, not_false_eq_true, false_implies, true_and, and_true, tti]
        refine sX9_swapped_44 (by decide) (e_refuseUnless (fun _ => ?_) fun q => absurd q (by decide))
        simp only [cont, Option.toList, List.cons_append, List.nil_append]
        refine rX9_swapped_47 ?_
        simp only [bX9_swapped_47, run, Nat.reduceAdd, lg, st1, st2, lkill, lset, fvv, sfv, kind3, cat1, retI, retA, List.length_cons, List.length_nil, true_and, and_true, or_true, true_or, qX9_swapped, hb.1.1.1, hb.1.1.2.2.2.2.1, not_true_eq_false, not_false_eq_true, false_implies, true_and, and_true, tti]
        refine sX9_swapped_51 hb.2.2.1.2.1 (e_frA w hf fun h2 fc kn => ?_)
        simp only [cont, Option.toList, List.cons_append, List.nil_append]
        refine Ex.wf (fun w2 => ?_)
        have hb2 := kn.1.b
        obtain ⟨c1, c2, c3, c4, e, xs, c5, c6, c7⟩ := hb2.lgs
        refine rX9_swapped_54 ?_
        simp only [bX9_swapped_54, run, Nat.reduceAdd, lg, st1, st2, lkill, lset, fvv, sfv, kind3, cat1, retI, retA, List.length_cons, List.length_nil, true_and, and_true, or_true, true_or, qX9_swapped, c1, c2, c3, c4, not_true_eq_false, not_false_eq_true, false_implies, true_and, and_true, tti]
        refine sX9_swapped_64 c5.1 (l_get c5 (by omega) ?_)
        simp only [cont, Option.toList, List.cons_append, List.nil_append]
        have lgl := c7 l hl
        refine rX9_swapped_67 ?_
        simp only [bX9_swapped_67, run, Nat.reduceAdd, lg, st1, st2, lkill, lset, fvv, sfv, kind3, cat1, retI, retA, List.length_cons, List.length_nil, true_and, and_true, or_true, true_or, qX9_swapped, lgl.1, not_true_eq_false, not_false_eq_true, false_implies, true_and, and_true, tti]
        refine sX9_swapped_71 (by decide) lgl.1 (e_swappingLaw lgl l8 e1 fun h3 c k3 lc3 => ?_)
        simp only [cont, Option.toList, List.cons_append, List.nil_append]
        refine Ex.wf (fun w3 => ?_)
        have ks3 := Kn.ks w2 hb2.2.2.2.2.1 k3
        have kn3 := ks3.knA w2 kn
        refine sX9_swapped_74 (by decide) kn3.1.b.lgs.1 (e_suppose kn3.1 hl lc3 fun h4 ks4 hs4 z4 => ?_)
        simp only [cont, Option.toList, List.cons_append, List.nil_append]
        refine Ex.wf (fun w4 => ?_)
        have kn4 := ks4.knA w3 kn3
        have hb4 := kn4.1.b
        have ok4 := setW_ok (l := l) hD (show (swp i (D.2.2.1 l)).length ≤ 8 by rw [swp_len hi]; exact l8)
        refine rX9_swapped_77 ?_
        simp only [bX9_swapped_77, run, Nat.reduceAdd, lg, st1, st2, lkill, lset, fvv, sfv, kind3, cat1, retI, retA, List.length_cons, List.length_nil, true_and, and_true, or_true, true_or, qX9_swapped, hb4.1.1.1, hb4.1.1.2.2.2.2.2.2.1, not_true_eq_false, not_false_eq_true, false_implies, true_and, and_true, tti]
        refine sX9_swapped_81 hb4.2.2.2.2.1.1 (e_freshSp kn4.1 hs4 ok4 z4 fun h5 ks5 sp5 => ?_)
        simp only [cont, Option.toList, List.cons_append, List.nil_append]
        have kn5 := ks5.knA w4 kn4
        refine rX9_swapped_84 ?_
        simp only [bX9_swapped_84, run, Nat.reduceAdd, lg, st1, st2, lkill, lset, fvv, sfv, kind3, cat1, retI, retA, List.length_cons, List.length_nil, true_and, and_true, or_true, true_or, qX9_swapped]
        refine sX9_swapped_86 kn5.1.b.lgs.1 (e_countDifferent kn5 sp5 ok4 rfl hl ?_)
        simp only [cont, Option.toList, List.cons_append, List.nil_append]
        refine rX9_swapped_89 ?_
        simp only [bX9_swapped_89, run, Nat.reduceAdd, lg, st1, st2, lkill, lset, fvv, sfv, kind3, cat1, retI, retA, List.length_cons, List.length_nil, true_and, and_true, or_true, true_or, qX9_swapped]
        exact hq l i hl e1 rfl rfl h5 (fc.tr ((ks3.tr ks4).tr ks5).fc) kn5.1
      · refine rX9_swapped_36 ?_
        simp only [bX9_swapped_36, run, Nat.reduceAdd, lg, st1, st2, lkill, lset, fvv, sfv, kind3, cat1, retI, retA, List.length_cons, List.length_nil, true_and, and_true, or_true, true_or, qX9_swapped, show nI (D.2.2.1 l).length ≤ nI (i + 1) ↔ True from ⟨fun _ => trivial, fun _ => nI_le (by omega) (by omega)⟩, not_true_eq_false, not_false_eq_true, false_implies, true_and, and_true, tti]
        refine rX9_swapped_43 ?_
        simp only [bX9_swapped_43, run, Nat.reduceAdd, lg, st1, st2, lkill, lset, fvv, sfv, kind3, cat1, retI, retA, List.length_cons, List.length_nil, true_and, and_true, or_true, true_or, qX9_swapped]
        exact sX9_swapped_44 (by decide) (e_refuseUnless (fun q => absurd rfl q) fun _ n hn => hx2 l hl rfl i (by omega) rfl n hn)
def cds (A B : Nat → Nat → List Nat) : Nat → Nat
  | 0 => 0
  | e + 1 => cds A B e + cdf (A e) (B e) 12
theorem cds_le {A B : Nat → Nat → List Nat} : ∀ n, cds A B n ≤ 12 * n
  | 0 => Nat.le_refl _
  | n + 1 => by
    have := cds_le (A := A) (B := B) n
    have := cdf_le (A := A n) (B := B n) 12
    unfold cds
    omega
theorem eraseIdx_8 {i : Nat} {ws : List Lw} (h : ws.length ≤ 8) : (ws.eraseIdx i).length ≤ 8 := by
  rw [List.length_eraseIdx]
  split <;> omega
theorem e_without {g : Gp} {x y : Int32} {h : AH} {Q : PQ} {f : Nat → Nat} {gv : Nat → List Nat} {op : Nat} {D : HD} (hf : FamR h f gv op D)
    (hq : ∀ l i, l < D.1 → i < (D.2.2.1 l).length → x = nI l → y = nI i → ∀ h', Fc h h' → FamR h' f gv op D → Q (.inl (some (vI (nI (cds (fun e m => (cel D f gv m e).1) (fun e m => (cel (setW D l ((D.2.2.1 l).eraseIdx i)) f gv m e).1) D.1))))) h')
    (hx : inb x D.1 = false → ∀ n, zN h ≤ n → Q (.inr 1) (bump h n))
    (hx1 : ∀ l, l < D.1 → x = nI l → inb y (D.2.2.1 l).length = false → ∀ n, zN h ≤ n → Q (.inr 1) (bump h n)) : Ev g mX9_without [vR 4, vI x, vI y] h Q := by
  have hb := hf.b
  have hD := hb.ok
  have hD1 := hD.2.1
  refine nX9_without ?_
  refine Ex.wf (fun w => ?_)
  have bad : (∀ n, zN h ≤ n → Q (.inr 1) (bump h n)) → Ex g mX9_without 21 [vR 4, vI x, vI y, vU, vU] [] h (0, 0) Q := fun e => by
    refine rX9_without_21 ?_
    simp only [bX9_without_21, run, Nat.reduceAdd, lg, st1, st2, lkill, lset, fvv, sfv, kind3, cat1, retI, retA, List.length_cons, List.length_nil, true_and, and_true, or_true, true_or, qX9_without]
    exact sX9_without_22 (by decide) (e_requireThere (fun q => absurd rfl q) fun _ n hn => e n hn)
  refine rX9_without_0 ?_
  simp only [bX9_without_0, run, Nat.reduceAdd, lg, st1, st2, lkill, lset, fvv, sfv, kind3, cat1, retI, retA, List.length_cons, List.length_nil, true_and, and_true, or_true, true_or, qX9_without]
  refine sX9_without_2 hb.lgs.1 (e_isLanguage hb ?_)
  simp only [cont, Option.toList, List.cons_append, List.nil_append]
  cases h1 : inb x D.1 with
  | false =>
    refine rX9_without_5 ?_
    simp only [bX9_without_5, run, Nat.reduceAdd, lg, st1, st2, lkill, lset, fvv, sfv, kind3, cat1, retI, retA, List.length_cons, List.length_nil, true_and, and_true, or_true, true_or, qX9_without, show bi false = 0 from rfl, not_true_eq_false, not_false_eq_true, false_implies, true_and, and_true, tti]
    exact bad (hx h1)
  | true =>
    obtain ⟨l, hl, rfl⟩ := inb_t (by omega) h1
    have l8 := hD.2.2.2.1 l hl
    refine rX9_without_5 ?_
    simp only [bX9_without_5, run, Nat.reduceAdd, lg, st1, st2, lkill, lset, fvv, sfv, kind3, cat1, retI, retA, List.length_cons, List.length_nil, true_and, and_true, or_true, true_or, qX9_without, show ¬ bi true = 0 by decide, not_true_eq_false, not_false_eq_true, false_implies, true_and, and_true, tti]
    refine sX9_without_11 hb.lgs.1 (e_isLaw hb hl ?_)
    simp only [cont, Option.toList, List.cons_append, List.nil_append]
    cases h2 : inb y (D.2.2.1 l).length with
    | false =>
      refine rX9_without_14 ?_
      simp only [bX9_without_14, run, Nat.reduceAdd, lg, st1, st2, lkill, lset, fvv, sfv, kind3, cat1, retI, retA, List.length_cons, List.length_nil, true_and, and_true, or_true, true_or, qX9_without, show bi false = 0 from rfl, not_true_eq_false, not_false_eq_true, false_implies, true_and, and_true, tti]
      exact bad (hx1 l hl rfl h2)
    | true =>
      obtain ⟨i, hi, rfl⟩ := inb_t (by omega) h2
      refine rX9_without_14 ?_
      simp only [bX9_without_14, run, Nat.reduceAdd, lg, st1, st2, lkill, lset, fvv, sfv, kind3, cat1, retI, retA, List.length_cons, List.length_nil, true_and, and_true, or_true, true_or, qX9_without, show ¬ bi true = 0 by decide, not_true_eq_false, not_false_eq_true, false_implies, true_and, and_true, tti]
      refine sX9_without_22 (by decide) (e_requireThere (fun _ => ?_) fun q => absurd q (by decide))
      simp only [cont, Option.toList, List.cons_append, List.nil_append]
      refine rX9_without_25 ?_
      simp only [bX9_without_25, run, Nat.reduceAdd, lg, st1, st2, lkill, lset, fvv, sfv, kind3, cat1, retI, retA, List.length_cons, List.length_nil, true_and, and_true, or_true, true_or, qX9_without, hb.1.1.1, hb.1.1.2.2.2.2.1, not_true_eq_false, not_false_eq_true, false_implies, true_and, and_true, tti]
      refine sX9_without_29 hb.2.2.1.2.1 (e_frA w hf fun h2 fc kn => ?_)
      simp only [cont, Option.toList, List.cons_append, List.nil_append]
      refine Ex.wf (fun w2 => ?_)
      have hb2 := kn.1.b
      obtain ⟨c1, c2, c3, c4, e, xs, c5, c6, c7⟩ := hb2.lgs
      refine rX9_without_32 ?_
      simp only [bX9_without_32, run, Nat.reduceAdd, lg, st1, st2, lkill, lset, fvv, sfv, kind3, cat1, retI, retA, List.length_cons, List.length_nil, true_and, and_true, or_true, true_or, qX9_without, c1, c2, c3, c4, not_true_eq_false, not_false_eq_true, false_implies, true_and, and_true, tti]
      refine sX9_without_42 c5.1 (l_get c5 (by omega) ?_)
      simp only [cont, Option.toList, List.cons_append, List.nil_append]
      have lgl := c7 l hl
      refine rX9_without_45 ?_
      simp only [bX9_without_45, run, Nat.reduceAdd, lg, st1, st2, lkill, lset, fvv, sfv, kind3, cat1, retI, retA, List.length_cons, List.length_nil, true_and, and_true, or_true, true_or, qX9_without, lgl.1, not_true_eq_false, not_false_eq_true, false_implies, true_and, and_true, tti]
      refine sX9_without_49 (by decide) lgl.1 (e_lackingLaw lgl l8 hi fun h3 c k3 lc3 => ?_)
      simp only [cont, Option.toList, List.cons_append, List.nil_append]
      refine Ex.wf (fun w3 => ?_)
      have ks3 := Kn.ks w2 hb2.2.2.2.2.1 k3
      have kn3 := ks3.knA w2 kn
      refine sX9_without_52 (by decide) kn3.1.b.lgs.1 (e_suppose kn3.1 hl lc3.lg fun h4 ks4 hs4 z4 => ?_)
      simp only [cont, Option.toList, List.cons_append, List.nil_append]
      refine Ex.wf (fun w4 => ?_)
      have kn4 := ks4.knA w3 kn3
      have hb4 := kn4.1.b
      have ok4 := setW_ok (l := l) hD (eraseIdx_8 (i := i) l8)
      refine rX9_without_55 ?_
      simp only [bX9_without_55, run, Nat.reduceAdd, lg, st1, st2, lkill, lset, fvv, sfv, kind3, cat1, retI, retA, List.length_cons, List.length_nil, true_and, and_true, or_true, true_or, qX9_without, hb4.1.1.1, hb4.1.1.2.2.2.2.2.2.1, not_true_eq_false, not_false_eq_true, false_implies, true_and, and_true, tti]
      refine sX9_without_59 hb4.2.2.2.2.1.1 (e_freshSp kn4.1 hs4 ok4 z4 fun h5 ks5 sp5 => ?_)
      simp only [cont, Option.toList, List.cons_append, List.nil_append]
      have kn5 := ks5.knA w4 kn4
      have z := hq l i hl hi rfl rfl h5 (fc.tr ((ks3.tr ks4).tr ks5).fc) kn5.1
      obtain ⟨c1, c2, c3, c4, e, xs, c5, c6, c7⟩ := kn5.1.b.lgs
      have lp : ∀ u, ∀ d k, k + d = D.1 → Ex g mX9_without 67 [vR 4, vI (nI l), vI (nI i), vI (nI (cds (fun e m => (cel D f gv m e).1) (fun e m => (cel (setW D l ((D.2.2.1 l).eraseIdx i)) f gv m e).1) k)), vI (nI k)] [] h5 u Q := by
        intro u d
        induction d with
        | zero =>
          intro k hk
          have e : k = D.1 := by omega
          subst e
          refine rX9_without_67 ?_
          simp only [bX9_without_67, run, Nat.reduceAdd, lg, st1, st2, lkill, lset, fvv, sfv, kind3, cat1, retI, retA, List.length_cons, List.length_nil, true_and, and_true, or_true, true_or, qX9_without, c1, c2, c3, c4, not_true_eq_false, not_false_eq_true, false_implies, true_and, and_true, tti]
          refine sX9_without_76 c5.1 (l_size c5 ?_)
          simp only [cont, Option.toList, List.cons_append, List.nil_append]
          rw [c6]
          refine rX9_without_79 ?_
          simp only [bX9_without_79, run, Nat.reduceAdd, lg, st1, st2, lkill, lset, fvv, sfv, kind3, cat1, retI, retA, List.length_cons, List.length_nil, true_and, and_true, or_true, true_or, qX9_without, show nI D.1 ≤ nI D.1 ↔ True from ⟨fun _ => trivial, fun _ => nI_le (Nat.le_refl _) (by omega)⟩, not_true_eq_false, not_false_eq_true, false_implies, true_and, and_true, tti]
          refine rX9_without_97 ?_
          simp only [bX9_without_97, run, Nat.reduceAdd, lg, st1, st2, lkill, lset, fvv, sfv, kind3, cat1, retI, retA, List.length_cons, List.length_nil, true_and, and_true, or_true, true_or, qX9_without]
          exact z
        | succ d ih =>
          intro k hk
          have nx := ih (k + 1) (by omega)
          rw [cds] at nx
          refine rX9_without_67 ?_
          simp only [bX9_without_67, run, Nat.reduceAdd, lg, st1, st2, lkill, lset, fvv, sfv, kind3, cat1, retI, retA, List.length_cons, List.length_nil, true_and, and_true, or_true, true_or, qX9_without, c1, c2, c3, c4, not_true_eq_false, not_false_eq_true, false_implies, true_and, and_true, tti]
          refine sX9_without_76 c5.1 (l_size c5 ?_)
          simp only [cont, Option.toList, List.cons_append, List.nil_append]
          rw [c6]
          refine rX9_without_79 ?_
          simp only [bX9_without_79, run, Nat.reduceAdd, lg, st1, st2, lkill, lset, fvv, sfv, kind3, cat1, retI, retA, List.length_cons, List.length_nil, true_and, and_true, or_true, true_or, qX9_without, show nI D.1 ≤ nI k ↔ False from ⟨nI_ge (by omega) (by omega), False.elim⟩, not_true_eq_false, not_false_eq_true, false_implies, true_and, and_true, tti]
          refine sX9_without_86 kn5.1.b.lgs.1 (e_countDifferent kn5 sp5 ok4 rfl (by omega) ?_)
          simp only [cont, Option.toList, List.cons_append, List.nil_append]
          refine rX9_without_89 ?_
          simp only [bX9_without_89, run, Nat.reduceAdd, lg, st1, st2, lkill, lset, fvv, sfv, kind3, cat1, retI, retA, List.length_cons, List.length_nil, true_and, and_true, or_true, true_or, qX9_without, nI_add, nI_1]
          exact nx
      refine rX9_without_62 ?_
      simp only [bX9_without_62, run, Nat.reduceAdd, lg, st1, st2, lkill, lset, fvv, sfv, kind3, cat1, retI, retA, List.length_cons, List.length_nil, true_and, and_true, or_true, true_or, qX9_without]
      exact lp _ D.1 0 (Nat.zero_add _)
