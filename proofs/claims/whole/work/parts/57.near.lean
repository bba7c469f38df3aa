/-! ===== nearest ===== -/
def nst (X : Nat → Nat × Nat) (l : Nat) : Nat → Nat × UInt64
  | 0 => (0, 0)
  | o + 1 => if ¬ o = l ∧ ¬ (X o).2 = 0 ∧ ((nst X l o).1 = 0 ∨ FP.dcmp (fdv (X o).1 (X o).2) (nst X l o).2 = some .lt) then (o + 1, fdv (X o).1 (X o).2) else nst X l o
theorem nst_le {X : Nat → Nat × Nat} {l : Nat} : ∀ n, (nst X l n).1 ≤ n
  | 0 => Nat.le_refl _
  | n + 1 => by
    have := nst_le (X := X) (l := l) n
    unfold nst
    split
    · exact Nat.le_refl _
    · omega
def dsX (D : HD) (f : Nat → Nat) (gv : Nat → List Nat) (l o : Nat) : Nat × Nat := dsm (cwm D f gv l o) 12
theorem e_nearestTo {g : Gp} {l : Nat} {h : AH} {Q : PQ} {f : Nat → Nat} {gv : Nat → List Nat} {op : Nat} {D : HD} (kn : KnA h f gv op D) (hl : l < D.1)
    (hq : ∀ h', Ku h h' → KnA h' f gv op D → Q (.inl (some (vI (bI (nst (dsX D f gv l) l D.1).1)))) h') : Ev g mX9_nearestTo [vR 4, vI (nI l)] h Q := by
  have hD1 := kn.1.b.ok.2.1
  refine nX9_nearestTo ?_
  refine Ex.wf (fun w => ?_)
  have lp : ∀ d o, o + d = D.1 → ∀ (y z : AV) (h2 : AH), Ku h h2 → KnA h2 f gv op D → Ex g mX9_nearestTo 7 [vR 4, vI (nI l), vI (bI (nst (dsX D f gv l) l o).1), vD (nst (dsX D f gv l) l o).2, vU, vI (nI o), y, z] [] h2 (0, 0) Q := by
    intro d
    induction d with
    | zero =>
      intro o ho y z h2 ku kn2
      have e : o = D.1 := by omega
      subst e
      obtain ⟨c1, c2, c3, c4, e, xs, c5, c6, c7⟩ := kn2.1.b.lgs
      refine rX9_nearestTo_7 ?_
      simp only [bX9_nearestTo_7, run, Nat.reduceAdd, lg, st1, st2, lkill, lset, fvv, sfv, kind3, cat1, retI, retA, List.length_cons, List.length_nil, true_and, and_true, or_true, true_or, qX9_nearestTo, c1, c2, c3, c4, not_true_eq_false, not_false_eq_true, false_implies, true_and, and_true, tti]
      refine sX9_nearestTo_16 c5.1 (l_size c5 ?_)
      simp only [cont, Option.toList, List.cons_append, List.nil_append]
      rw [c6]
      refine rX9_nearestTo_19 ?_
      simp only [bX9_nearestTo_19, run, Nat.reduceAdd, lg, st1, st2, lkill, lset, fvv, sfv, kind3, cat1, retI, retA, List.length_cons, List.length_nil, true_and, and_true, or_true, true_or, qX9_nearestTo, show nI D.1 ≤ nI D.1 ↔ True from ⟨fun _ => trivial, fun _ => nI_le (Nat.le_refl _) (by omega)⟩, not_true_eq_false, not_false_eq_true, false_implies, true_and, and_true, tti]
      refine rX9_nearestTo_74 ?_
      simp only [bX9_nearestTo_74, run, Nat.reduceAdd, lg, st1, st2, lkill, lset, fvv, sfv, kind3, cat1, retI, retA, List.length_cons, List.length_nil, true_and, and_true, or_true, true_or, qX9_nearestTo]
      exact hq h2 ku kn2
    | succ d ih =>
      intro o ho y z h2 ku kn2
      have nx := ih (o + 1) (by omega)
      have le := nst_le (X := dsX D f gv l) (l := l) o
      unfold nst at nx
      obtain ⟨c1, c2, c3, c4, e, xs, c5, c6, c7⟩ := kn2.1.b.lgs
      refine rX9_nearestTo_7 ?_
      simp only [bX9_nearestTo_7, run, Nat.reduceAdd, lg, st1, st2, lkill, lset, fvv, sfv, kind3, cat1, retI, retA, List.length_cons, List.length_nil, true_and, and_true, or_true, true_or, qX9_nearestTo, c1, c2, c3, c4, not_true_eq_false, not_false_eq_true, false_implies, true_and, and_true, tti]
      refine sX9_nearestTo_16 c5.1 (l_size c5 ?_)
      simp only [cont, Option.toList, List.cons_append, List.nil_append]
      rw [c6]
      have nle : nI D.1 ≤ nI o ↔ False := ⟨nI_ge (by omega) (by omega), False.elim⟩
      by_cases ol : o = l
      · subst ol
        have n2 := nx (vD 13830554455654793216) vU h2 ku kn2
        rw [if_neg (fun q => q.1 rfl)] at n2
        refine rX9_nearestTo_19 ?_
        simp only [bX9_nearestTo_19, run, Nat.reduceAdd, lg, st1, st2, lkill, lset, fvv, sfv, kind3, cat1, retI, retA, List.length_cons, List.length_nil, true_and, and_true, or_true, true_or, qX9_nearestTo, nle, show FP.dconst0 = 0 from rfl, show Op.cmpValue (FP.dcmp 13830554455654793216 0) .l < 0 ↔ True from ⟨fun _ => trivial, fun _ => by rw [m1_lt]; decide⟩, not_true_eq_false, not_false_eq_true, false_implies, true_and, and_true, tti]
        refine rX9_nearestTo_68 ?_
        simp only [bX9_nearestTo_68, run, Nat.reduceAdd, lg, st1, st2, lkill, lset, fvv, sfv, kind3, cat1, retI, retA, List.length_cons, List.length_nil, true_and, and_true, or_true, true_or, qX9_nearestTo, nI_1]
        exact n2
      · refine Ex.wf (fun w2 => ?_)
        have ho1 : o < D.1 := by omega
        have les := cwm_le kn2 hl ho1 12 (by decide)
        have d0 := dsD_0 les
        refine rX9_nearestTo_19 ?_
        simp only [bX9_nearestTo_19, run, Nat.reduceAdd, lg, st1, st2, lkill, lset, fvv, sfv, kind3, cat1, retI, retA, List.length_cons, List.length_nil, true_and, and_true, or_true, true_or, qX9_nearestTo, nle, show nI o = nI l ↔ False from ⟨fun q => ol ((nI_eq (by omega) (by omega)).mp q), False.elim⟩, not_true_eq_false, not_false_eq_true, false_implies, true_and, and_true, tti]
        refine rX9_nearestTo_34 ?_
        simp only [bX9_nearestTo_34, run, Nat.reduceAdd, lg, st1, st2, lkill, lset, fvv, sfv, kind3, cat1, retI, retA, List.length_cons, List.length_nil, true_and, and_true, or_true, true_or, qX9_nearestTo]
        refine sX9_nearestTo_38 kn2.1.b.lgs.1 (e_distanceOf kn2 hl ho1 fun h3 y3 kn3 => ?_)
        simp only [cont, Option.toList, List.cons_append, List.nil_append]
        have n2 := fun a b => nx a b h3 (ku.tr y3) kn3
        rw [show dsX D f gv l o = dsm (cwm D f gv l o) 12 from rfl] at n2
        have eD : dsD (dsm (cwm D f gv l o) 12) = if (dsm (cwm D f gv l o) 12).2 = 0 then 13830554455654793216 else fdv (dsm (cwm D f gv l o) 12).1 (dsm (cwm D f gv l o) 12).2 := rfl
        generalize dsm (cwm D f gv l o) 12 = X at n2 les d0 eD
        generalize nst (dsX D f gv l) l o = N at n2 le
        by_cases e0 : X.2 = 0
        · rw [if_neg (fun q => q.2.1 e0)] at n2
          rw [if_pos e0] at d0
          refine rX9_nearestTo_41 ?_
          simp only [bX9_nearestTo_41, run, Nat.reduceAdd, lg, st1, st2, lkill, lset, fvv, sfv, kind3, cat1, retI, retA, List.length_cons, List.length_nil, true_and, and_true, or_true, true_or, qX9_nearestTo, show FP.dconst0 = 0 from rfl, show Op.cmpValue (FP.dcmp (dsD X) 0) .l < 0 ↔ True from ⟨fun _ => trivial, fun _ => by rw [d0]; decide⟩, not_true_eq_false, not_false_eq_true, false_implies, true_and, and_true, tti]
          refine rX9_nearestTo_68 ?_
          simp only [bX9_nearestTo_68, run, Nat.reduceAdd, lg, st1, st2, lkill, lset, fvv, sfv, kind3, cat1, retI, retA, List.length_cons, List.length_nil, true_and, and_true, or_true, true_or, qX9_nearestTo, nI_1]
          exact n2 _ _
        · rw [if_neg e0] at d0
          rw [if_neg e0] at eD
          rw [← eD] at n2
          have c0 : Op.cmpValue (FP.dcmp (dsD X) 0) .l < 0 ↔ False := ⟨fun q => cv_l d0 q, False.elim⟩
          by_cases eN : N.1 = 0
          · rw [if_pos ⟨ol, e0, Or.inl eN⟩] at n2
            refine rX9_nearestTo_41 ?_
            simp only [bX9_nearestTo_41, run, Nat.reduceAdd, lg, st1, st2, lkill, lset, fvv, sfv, kind3, cat1, retI, retA, List.length_cons, List.length_nil, true_and, and_true, or_true, true_or, qX9_nearestTo, show FP.dconst0 = 0 from rfl, c0, eN, show bI 0 = -1 from bI_0, not_true_eq_false, not_false_eq_true, false_implies, true_and, and_true, tti]
            refine rX9_nearestTo_62 ?_
            simp only [bX9_nearestTo_62, run, Nat.reduceAdd, lg, st1, st2, lkill, lset, fvv, sfv, kind3, cat1, retI, retA, List.length_cons, List.length_nil, true_and, and_true, or_true, true_or, qX9_nearestTo, nI_1]
            rw [bI_s] at n2
            exact n2 _ _
          · have b1 : bI N.1 = -1 ↔ False := ⟨fun q => by
              obtain ⟨t, ht⟩ : ∃ t, N.1 = t + 1 := ⟨N.1 - 1, by omega⟩
              rw [ht, bI_s] at q
              exact nI_m1 (by omega) q, False.elim⟩
            by_cases eL : FP.dcmp (dsD X) N.2 = some .lt
            · rw [if_pos ⟨ol, e0, Or.inr eL⟩] at n2
              refine rX9_nearestTo_41 ?_
              simp only [bX9_nearestTo_41, run, Nat.reduceAdd, lg, st1, st2, lkill, lset, fvv, sfv, kind3, cat1, retI, retA, List.length_cons, List.length_nil, true_and, and_true, or_true, true_or, qX9_nearestTo, show FP.dconst0 = 0 from rfl, c0, b1, cv_g0, eL, nI_1, not_true_eq_false, not_false_eq_true, false_implies, true_and, and_true, tti]
              rw [bI_s] at n2
              exact n2 _ _
            · rw [if_neg (fun q => q.2.2.elim eN eL)] at n2
              refine rX9_nearestTo_41 ?_
              simp only [bX9_nearestTo_41, run, Nat.reduceAdd, lg, st1, st2, lkill, lset, fvv, sfv, kind3, cat1, retI, retA, List.length_cons, List.length_nil, true_and, and_true, or_true, true_or, qX9_nearestTo, show FP.dconst0 = 0 from rfl, c0, b1, cv_g0, eL, not_true_eq_false, not_false_eq_true, false_implies, true_and, and_true, tti]
              refine rX9_nearestTo_68 ?_
              simp only [bX9_nearestTo_68, run, Nat.reduceAdd, lg, st1, st2, lkill, lset, fvv, sfv, kind3, cat1, retI, retA, List.length_cons, List.length_nil, true_and, and_true, or_true, true_or, qX9_nearestTo, nI_1]
              exact n2 _ _
  refine rX9_nearestTo_0 ?_
  simp only [bX9_nearestTo_0, run, Nat.reduceAdd, lg, st1, st2, lkill, lset, fvv, sfv, kind3, cat1, retI, retA, List.length_cons, List.length_nil, true_and, and_true, or_true, true_or, qX9_nearestTo]
  exact lp D.1 0 (Nat.zero_add _) _ _ h Ku.rf kn
theorem e_nearest {g : Gp} {x : Int32} {h : AH} {Q : PQ} {f : Nat → Nat} {gv : Nat → List Nat} {op : Nat} {D : HD} (hf : FamR h f gv op D)
    (hq : ∀ l, l < D.1 → x = nI l → ∀ h', Fc h h' → FamR h' f gv op D → Q (.inl (some (vI (bI (nst (dsX D f gv l) l D.1).1)))) h')
    (hx : inb x D.1 = false → ∀ n, zN h ≤ n → Q (.inr 1) (bump h n)) : Ev g mX9_nearest [vR 4, vI x] h Q := by
  have hb := hf.b
  have hD1 := hb.ok.2.1
  refine nX9_nearest ?_
  refine Ex.wf (fun w => ?_)
  refine rX9_nearest_0 ?_
  simp only [bX9_nearest_0, run, Nat.reduceAdd, lg, st1, st2, lkill, lset, fvv, sfv, kind3, cat1, retI, retA, List.length_cons, List.length_nil, true_and, and_true, or_true, true_or, qX9_nearest]
  refine sX9_nearest_2 hb.lgs.1 (e_isLanguage hb ?_)
  simp only [cont, Option.toList, List.cons_append, List.nil_append]
  refine sX9_nearest_5 (by decide) (e_requireThere (fun q => ?_) fun q n hn => hx (bi_0.mp q) n hn)
  simp only [cont, Option.toList, List.cons_append, List.nil_append]
  obtain ⟨l, hl, rfl⟩ := inb_t (by omega) (ts_nf fun e => q (bi_0.mpr e))
  refine rX9_nearest_8 ?_
  simp only [bX9_nearest_8, run, Nat.reduceAdd, lg, st1, st2, lkill, lset, fvv, sfv, kind3, cat1, retI, retA, List.length_cons, List.length_nil, true_and, and_true, or_true, true_or, qX9_nearest, hb.1.1.1, hb.1.1.2.2.2.2.1, not_true_eq_false, not_false_eq_true, false_implies, true_and, and_true, tti]
  refine sX9_nearest_12 hb.2.2.1.2.1 (e_frA w hf fun h2 fc kn => ?_)
  simp only [cont, Option.toList, List.cons_append, List.nil_append]
  refine rX9_nearest_15 ?_
  simp only [bX9_nearest_15, run, Nat.reduceAdd, lg, st1, st2, lkill, lset, fvv, sfv, kind3, cat1, retI, retA, List.length_cons, List.length_nil, true_and, and_true, or_true, true_or, qX9_nearest]
  refine sX9_nearest_17 kn.1.b.lgs.1 (e_nearestTo kn hl fun h3 y kn3 => ?_)
  simp only [cont, Option.toList, List.cons_append, List.nil_append]
  refine rX9_nearest_20 ?_
  simp only [bX9_nearest_20, run, Nat.reduceAdd, lg, st1, st2, lkill, lset, fvv, sfv, kind3, cat1, retI, retA, List.length_cons, List.length_nil, true_and, and_true, or_true, true_or, qX9_nearest]
  exact hq l hl rfl h3 (fc.tr y.fc) kn3.1
