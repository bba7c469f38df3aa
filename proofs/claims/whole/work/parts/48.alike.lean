def al2 (W : Nat → List Nat) (m : Nat) : Nat → Nat → Nat
  | 0, c => c
  | k + 1, c => if W m = W (m + 1 + k) ∧ ¬ W m = [] then al2 W m k c + 1 else al2 W m k c
/-- the pairs of like words, by the smaller meaning -/
def alk (W : Nat → List Nat) : Nat → Nat
  | 0 => 0
  | m + 1 => al2 W m (11 - m) (alk W m)
theorem e_countAlike {g : Gp} {l : Nat} {h : AH} {Q : PQ} {f : Nat → Nat} {gv : Nat → List Nat} {op : Nat} {D : HD} (kn : KnA h f gv op D) (hl : l < D.1) (hq : Q (.inl (some (vI (nI (alk (fun m => (cel D f gv m l).1) 12))))) h) : Ev g mX9_countAlike [vR 4, vI (nI l)] h Q := by
  have hb := kn.1.b
  have hD1 := hb.ok.2.1
  refine nX9_countAlike ?_
  have lp : ∀ d m, m + d = 12 → ∀ y z : AV, Ex g mX9_countAlike 4 [vR 4, vI (nI l), vI (nI (alk (fun m => (cel D f gv m l).1) m)), vI (nI m), y, z] [] h (0, 0) Q := by
    intro d
    induction d with
    | zero =>
      intro m hm y z
      have e : m = 12 := by omega
      subst e
      refine rX9_countAlike_4 ?_
      simp only [bX9_countAlike_4, run, Nat.reduceAdd, lg, st1, st2, lkill, lset, fvv, sfv, kind3, cat1, retI, retA, List.length_cons, List.length_nil, true_and, and_true, or_true, true_or, qX9_countAlike, show ((12 : Int32) ≤ nI 12) = True by decide, not_true_eq_false, not_false_eq_true, false_implies, true_and, and_true, tti]
      refine rX9_countAlike_84 ?_
      simp only [bX9_countAlike_84, run, Nat.reduceAdd, lg, st1, st2, lkill, lset, fvv, sfv, kind3, cat1, retI, retA, List.length_cons, List.length_nil, true_and, and_true, or_true, true_or, qX9_countAlike]
      exact hq
    | succ d ih =>
      intro m hm y z
      have nx := ih (m + 1) (by omega)
      rw [alk] at nx
      have wm := (kn.ok (m := m) (by omega) hl).1
      have cm := kn.2 m (by omega) l hl
      have inner : ∀ d k c, k + d = 11 - m → ∀ z : AV, al2 (fun m => (cel D f gv m l).1) m k (alk (fun m => (cel D f gv m l).1) m) = c → Ex g mX9_countAlike 15 [vR 4, vI (nI l), vI (nI c), vI (nI m), vI (nI (m + 1 + k)), z] [] h (0, 0) Q := by
        intro d
        induction d with
        | zero =>
          intro k c hk z hc
          have e : k = 11 - m := by omega
          subst e
          rw [hc] at nx
          refine rX9_countAlike_15 ?_
          simp only [bX9_countAlike_15, run, Nat.reduceAdd, lg, st1, st2, lkill, lset, fvv, sfv, kind3, cat1, retI, retA, List.length_cons, List.length_nil, true_and, and_true, or_true, true_or, qX9_countAlike, show (12 : Int32) ≤ nI (m + 1 + (11 - m)) ↔ True from ⟨fun _ => trivial, fun _ => nI_le (a := 12) (by omega) (by omega)⟩, not_true_eq_false, not_false_eq_true, false_implies, true_and, and_true, tti]
          refine rX9_countAlike_78 ?_
          simp only [bX9_countAlike_78, run, Nat.reduceAdd, lg, st1, st2, lkill, lset, fvv, sfv, kind3, cat1, retI, retA, List.length_cons, List.length_nil, true_and, and_true, or_true, true_or, qX9_countAlike, nI_1]
          exact nx _ _
        | succ d ih2 =>
          intro k c hk z hc
          have n2 := ih2 (k + 1)
          have wo := (kn.ok (m := m + 1 + k) (by omega) hl).1
          have co := kn.2 (m + 1 + k) (by omega) l hl
          have key := eC_inj wm wo
          refine rX9_countAlike_15 ?_
          simp only [bX9_countAlike_15, run, Nat.reduceAdd, lg, st1, st2, lkill, lset, fvv, sfv, kind3, cat1, retI, retA, List.length_cons, List.length_nil, true_and, and_true, or_true, true_or, qX9_countAlike, show (12 : Int32) ≤ nI (m + 1 + k) ↔ False from ⟨nI_ge (b := 12) (by omega) (by omega), False.elim⟩, hb.1.1.1, hb.1.1.2.2.2.2.1, not_true_eq_false, not_false_eq_true, false_implies, true_and, and_true, tti]
          refine sX9_countAlike_28 hb.2.2.1.2.1 (e_wordOf hb.2.2.1.2 (by omega) (by omega) cm ?_)
          simp only [cont, Option.toList, List.cons_append, List.nil_append]
          refine rX9_countAlike_31 ?_
          simp only [bX9_countAlike_31, run, Nat.reduceAdd, lg, st1, st2, lkill, lset, fvv, sfv, kind3, cat1, retI, retA, List.length_cons, List.length_nil, true_and, and_true, or_true, true_or, qX9_countAlike, hb.1.1.1, hb.1.1.2.2.2.2.1, not_true_eq_false, not_false_eq_true, false_implies, true_and, and_true, tti]
          refine sX9_countAlike_38 hb.2.2.1.2.1 (e_wordOf hb.2.2.1.2 (by omega) (by omega) co ?_)
          simp only [cont, Option.toList, List.cons_append, List.nil_append]
          by_cases same : (cel D f gv m l).1 = (cel D f gv (m + 1 + k) l).1
          · have e0 : lg_cmp (eC (cel D f gv m l).1) (eC (cel D f gv (m + 1 + k) l).1) = 0 := (lg_cmp_eq _ _).mpr (key.mpr same)
            refine rX9_countAlike_41 ?_
            simp only [bX9_countAlike_41, run, Nat.reduceAdd, lg, st1, st2, lkill, lset, fvv, sfv, kind3, cat1, retI, retA, List.length_cons, List.length_nil, true_and, and_true, or_true, true_or, qX9_countAlike, e0, show ¬ (1 : Int32) = 0 by decide, hb.1.1.1, hb.1.1.2.2.2.2.1, not_true_eq_false, not_false_eq_true, false_implies, true_and, and_true, tti]
            refine sX9_countAlike_63 hb.2.2.1.2.1 (e_hasWord hb.2.2.1.2 wm (by omega) (by omega) cm.1 ?_)
            simp only [cont, Option.toList, List.cons_append, List.nil_append]
            by_cases hw : (cel D f gv m l).1 = []
            · have n3 := n2 c (by omega) (vI 1) (by rw [al2, if_neg (fun q => q.2 hw)]; exact hc)
              refine rX9_countAlike_66 ?_
              simp only [bX9_countAlike_66, run, Nat.reduceAdd, lg, st1, st2, lkill, lset, fvv, sfv, kind3, cat1, retI, retA, List.length_cons, List.length_nil, true_and, and_true, or_true, true_or, qX9_countAlike, if_pos hw, not_true_eq_false, not_false_eq_true, false_implies, true_and, and_true, tti]
              refine rX9_countAlike_72 ?_
              simp only [bX9_countAlike_72, run, Nat.reduceAdd, lg, st1, st2, lkill, lset, fvv, sfv, kind3, cat1, retI, retA, List.length_cons, List.length_nil, true_and, and_true, or_true, true_or, qX9_countAlike, nI_1]
              exact n3
            · have n3 := n2 (c + 1) (by omega) (vI 1) (by rw [al2, if_pos ⟨same, hw⟩, hc])
              refine rX9_countAlike_66 ?_
              simp only [bX9_countAlike_66, run, Nat.reduceAdd, lg, st1, st2, lkill, lset, fvv, sfv, kind3, cat1, retI, retA, List.length_cons, List.length_nil, true_and, and_true, or_true, true_or, qX9_countAlike, if_neg hw, show ¬ (1 : Int32) = 0 by decide, nI_1, not_true_eq_false, not_false_eq_true, false_implies, true_and, and_true, tti]
              exact n3
          · have e0 : lg_cmp (eC (cel D f gv m l).1) (eC (cel D f gv (m + 1 + k) l).1) = 0 ↔ False := ⟨fun q => same (key.mp ((lg_cmp_eq _ _).mp q)), False.elim⟩
            have n3 := n2 c (by omega) (vI 0) (by rw [al2, if_neg (fun q => same q.1)]; exact hc)
            refine rX9_countAlike_41 ?_
            simp only [bX9_countAlike_41, run, Nat.reduceAdd, lg, st1, st2, lkill, lset, fvv, sfv, kind3, cat1, retI, retA, List.length_cons, List.length_nil, true_and, and_true, or_true, true_or, qX9_countAlike, e0, not_true_eq_false, not_false_eq_true, false_implies, true_and, and_true, tti]
            refine rX9_countAlike_49 ?_
            simp only [bX9_countAlike_49, run, Nat.reduceAdd, lg, st1, st2, lkill, lset, fvv, sfv, kind3, cat1, retI, retA, List.length_cons, List.length_nil, true_and, and_true, or_true, true_or, qX9_countAlike, not_true_eq_false, not_false_eq_true, false_implies, true_and, and_true, tti]
            refine rX9_countAlike_72 ?_
            simp only [bX9_countAlike_72, run, Nat.reduceAdd, lg, st1, st2, lkill, lset, fvv, sfv, kind3, cat1, retI, retA, List.length_cons, List.length_nil, true_and, and_true, or_true, true_or, qX9_countAlike, nI_1]
            exact n3
      refine rX9_countAlike_4 ?_
      simp only [bX9_countAlike_4, run, Nat.reduceAdd, lg, st1, st2, lkill, lset, fvv, sfv, kind3, cat1, retI, retA, List.length_cons, List.length_nil, true_and, and_true, or_true, true_or, qX9_countAlike, show ((12 : Int32) ≤ nI m) ↔ False from ⟨nI_ge (b := 12) (by omega) (by omega), False.elim⟩, nI_1, not_true_eq_false, not_false_eq_true, false_implies, true_and, and_true, tti]
      exact inner (11 - m) 0 _ (Nat.zero_add _) _ rfl
  refine rX9_countAlike_0 ?_
  simp only [bX9_countAlike_0, run, Nat.reduceAdd, lg, st1, st2, lkill, lset, fvv, sfv, kind3, cat1, retI, retA, List.length_cons, List.length_nil, true_and, and_true, or_true, true_or, qX9_countAlike]
  exact lp 12 0 rfl _ _
theorem e_alike {g : Gp} {x : Int32} {h : AH} {Q : PQ} {f : Nat → Nat} {gv : Nat → List Nat} {op : Nat} {D : HD} (hf : FamR h f gv op D)
    (hq : ∀ l, l < D.1 → x = nI l → ∀ h', Fc h h' → FamR h' f gv op D → Q (.inl (some (vI (nI (alk (fun m => (cel D f gv m l).1) 12))))) h')
    (hx : inb x D.1 = false → ∀ n, zN h ≤ n → Q (.inr 1) (bump h n)) : Ev g mX9_alike [vR 4, vI x] h Q := by
  have hb := hf.b
  have hD1 := hb.ok.2.1
  refine nX9_alike ?_
  refine Ex.wf (fun w => ?_)
  refine rX9_alike_0 ?_
  simp only [bX9_alike_0, run, Nat.reduceAdd, lg, st1, st2, lkill, lset, fvv, sfv, kind3, cat1, retI, retA, List.length_cons, List.length_nil, true_and, and_true, or_true, true_or, qX9_alike]
  refine sX9_alike_2 hb.lgs.1 (e_isLanguage hb ?_)
  simp only [cont, Option.toList, List.cons_append, List.nil_append]
  refine sX9_alike_5 (by decide) (e_requireThere (fun q => ?_) fun q n hn => hx (bi_0.mp q) n hn)
  simp only [cont, Option.toList, List.cons_append, List.nil_append]
  obtain ⟨l, hl, rfl⟩ := inb_t (by omega) (ts_nf fun e => q (bi_0.mpr e))
  refine rX9_alike_8 ?_
  simp only [bX9_alike_8, run, Nat.reduceAdd, lg, st1, st2, lkill, lset, fvv, sfv, kind3, cat1, retI, retA, List.length_cons, List.length_nil, true_and, and_true, or_true, true_or, qX9_alike, hb.1.1.1, hb.1.1.2.2.2.2.1, not_true_eq_false, not_false_eq_true, false_implies, true_and, and_true, tti]
  refine sX9_alike_12 hb.2.2.1.2.1 (e_frA w hf fun h2 fc kn => ?_)
  simp only [cont, Option.toList, List.cons_append, List.nil_append]
  refine rX9_alike_15 ?_
  simp only [bX9_alike_15, run, Nat.reduceAdd, lg, st1, st2, lkill, lset, fvv, sfv, kind3, cat1, retI, retA, List.length_cons, List.length_nil, true_and, and_true, or_true, true_or, qX9_alike]
  refine sX9_alike_17 kn.1.b.lgs.1 (e_countAlike kn hl ?_)
  simp only [cont, Option.toList, List.cons_append, List.nil_append]
  refine rX9_alike_20 ?_
  simp only [bX9_alike_20, run, Nat.reduceAdd, lg, st1, st2, lkill, lset, fvv, sfv, kind3, cat1, retI, retA, List.length_cons, List.length_nil, true_and, and_true, or_true, true_or, qX9_alike]
  exact hq l hl rfl h2 fc kn.1
