def sow (w : List Nat) : Nat → Nat → Nat
  | 0, s => s
  | p + 1, s => sow w p s ||| 2 ^ w.getD p 0
/-- the set of the sounds in a language's words for the first meanings -/
def sos (D : HD) (f : Nat → Nat) (gv : Nat → List Nat) (l : Nat) : Nat → Nat
  | 0 => 0
  | m + 1 => sow (cel D f gv m l).1 (cel D f gv m l).1.length (sos D f gv l m)
theorem e_collectSounds {g : Gp} {l : Nat} {h : AH} {Q : PQ} {f : Nat → Nat} {gv : Nat → List Nat} {op : Nat} {D : HD} (kn : KnA h f gv op D) (hl : l < D.1) (hq : Q (.inl (some (vI (nI (sos D f gv l 12))))) h) : Ev g mX9_collectSounds [vR 4, vI (nI l)] h Q := by
  have hb := kn.1.b
  have hD1 := hb.ok.2.1
  refine nX9_collectSounds ?_
  have lp : ∀ d m, m + d = 12 → ∀ y z t : AV, Ex g mX9_collectSounds 4 [vR 4, vI (nI l), vI (nI (sos D f gv l m)), vI (nI m), y, z, t] [] h (0, 0) Q := by
    intro d
    induction d with
    | zero =>
      intro m hm y z t
      have e : m = 12 := by omega
      subst e
      refine rX9_collectSounds_4 ?_
      simp only [bX9_collectSounds_4, run, Nat.reduceAdd, lg, st1, st2, lkill, lset, fvv, sfv, kind3, cat1, retI, retA, List.length_cons, List.length_nil, true_and, and_true, or_true, true_or, qX9_collectSounds, show ((12 : Int32) ≤ nI 12) = True by decide, not_true_eq_false, not_false_eq_true, false_implies, true_and, and_true, tti]
      refine rX9_collectSounds_58 ?_
      simp only [bX9_collectSounds_58, run, Nat.reduceAdd, lg, st1, st2, lkill, lset, fvv, sfv, kind3, cat1, retI, retA, List.length_cons, List.length_nil, true_and, and_true, or_true, true_or, qX9_collectSounds]
      exact hq
    | succ d ih =>
      intro m hm y z t
      have nx := ih (m + 1) (by omega)
      unfold sos at nx
      have wk := (kn.ok (m := m) (by omega) hl).1
      have cr := kn.2 m (by omega) l hl
      refine rX9_collectSounds_4 ?_
      simp only [bX9_collectSounds_4, run, Nat.reduceAdd, lg, st1, st2, lkill, lset, fvv, sfv, kind3, cat1, retI, retA, List.length_cons, List.length_nil, true_and, and_true, or_true, true_or, qX9_collectSounds, show ((12 : Int32) ≤ nI m) ↔ False from ⟨nI_ge (b := 12) (by omega) (by omega), False.elim⟩, hb.1.1.1, hb.1.1.2.2.2.2.1, not_true_eq_false, not_false_eq_true, false_implies, true_and, and_true, tti]
      refine sX9_collectSounds_16 hb.2.2.1.2.1 (e_wordOf hb.2.2.1.2 (by omega) (by omega) cr ?_)
      simp only [cont, Option.toList, List.cons_append, List.nil_append]
      generalize (cel D f gv m l).1 = w at wk nx
      have wk1 := wk.1
      have inner : ∀ d p, p + d = w.length → Ex g mX9_collectSounds 24 [vR 4, vI (nI l), vI (nI (sow w p (sos D f gv l m))), vI (nI m), vL (eC w), vU, vI (nI p)] [] h (0, 0) Q := by
        intro d
        induction d with
        | zero =>
          intro p hp
          have e : p = w.length := by omega
          subst e
          refine rX9_collectSounds_24 ?_
          simp only [bX9_collectSounds_24, run, Nat.reduceAdd, lg, st1, st2, lkill, lset, fvv, sfv, kind3, cat1, retI, retA, List.length_cons, List.length_nil, true_and, and_true, or_true, true_or, qX9_collectSounds]
          refine sX9_collectSounds_28 (e_size wk ?_)
          simp only [cont, Option.toList, List.cons_append, List.nil_append]
          refine rX9_collectSounds_31 ?_
          simp only [bX9_collectSounds_31, run, Nat.reduceAdd, lg, st1, st2, lkill, lset, fvv, sfv, kind3, cat1, retI, retA, List.length_cons, List.length_nil, true_and, and_true, or_true, true_or, qX9_collectSounds, show nI w.length ≤ nI w.length ↔ True from ⟨fun _ => trivial, fun _ => nI_le (Nat.le_refl _) (by omega)⟩, not_true_eq_false, not_false_eq_true, false_implies, true_and, and_true, tti]
          refine rX9_collectSounds_52 ?_
          simp only [bX9_collectSounds_52, run, Nat.reduceAdd, lg, st1, st2, lkill, lset, fvv, sfv, kind3, cat1, retI, retA, List.length_cons, List.length_nil, true_and, and_true, or_true, true_or, qX9_collectSounds, nI_1]
          exact nx _ _ _
        | succ d ih2 =>
          intro p hp
          have n2 := ih2 (p + 1) (by omega)
          unfold sow at n2
          have hat := wk.at p
          refine rX9_collectSounds_24 ?_
          simp only [bX9_collectSounds_24, run, Nat.reduceAdd, lg, st1, st2, lkill, lset, fvv, sfv, kind3, cat1, retI, retA, List.length_cons, List.length_nil, true_and, and_true, or_true, true_or, qX9_collectSounds]
          refine sX9_collectSounds_28 (e_size wk ?_)
          simp only [cont, Option.toList, List.cons_append, List.nil_append]
          refine rX9_collectSounds_31 ?_
          simp only [bX9_collectSounds_31, run, Nat.reduceAdd, lg, st1, st2, lkill, lset, fvv, sfv, kind3, cat1, retI, retA, List.length_cons, List.length_nil, true_and, and_true, or_true, true_or, qX9_collectSounds, show nI w.length ≤ nI p ↔ False from ⟨nI_ge (by omega) (by omega), False.elim⟩, not_true_eq_false, not_false_eq_true, false_implies, true_and, and_true, tti]
          refine sX9_collectSounds_40 (e_at wk (by omega) ?_)
          simp only [cont, Option.toList, List.cons_append, List.nil_append]
          refine rX9_collectSounds_43 ?_
          simp only [bX9_collectSounds_43, run, Nat.reduceAdd, lg, st1, st2, lkill, lset, fvv, sfv, kind3, cat1, retI, retA, List.length_cons, List.length_nil, true_and, and_true, or_true, true_or, qX9_collectSounds, w_one (w.getD p 0) (by omega), fa_or, nI_1]
          exact n2
      refine rX9_collectSounds_19 ?_
      simp only [bX9_collectSounds_19, run, Nat.reduceAdd, lg, st1, st2, lkill, lset, fvv, sfv, kind3, cat1, retI, retA, List.length_cons, List.length_nil, true_and, and_true, or_true, true_or, qX9_collectSounds]
      exact inner _ 0 (Nat.zero_add _)
  refine rX9_collectSounds_0 ?_
  simp only [bX9_collectSounds_0, run, Nat.reduceAdd, lg, st1, st2, lkill, lset, fvv, sfv, kind3, cat1, retI, retA, List.length_cons, List.length_nil, true_and, and_true, or_true, true_or, qX9_collectSounds]
  exact lp 12 0 rfl _ _ _
theorem e_soundsOf {g : Gp} {x : Int32} {h : AH} {Q : PQ} {f : Nat → Nat} {gv : Nat → List Nat} {op : Nat} {D : HD} (hf : FamR h f gv op D)
    (hq : ∀ l, l < D.1 → x = nI l → ∀ h', Fc h h' → FamR h' f gv op D → Q (.inl (some (vI (nI (sos D f gv l 12))))) h')
    (hx : inb x D.1 = false → ∀ n, zN h ≤ n → Q (.inr 1) (bump h n)) : Ev g mX9_soundsOf [vR 4, vI x] h Q := by
  have hb := hf.b
  have hD1 := hb.ok.2.1
  refine nX9_soundsOf ?_
  refine Ex.wf (fun w => ?_)
  refine rX9_soundsOf_0 ?_
  simp only [bX9_soundsOf_0, run, Nat.reduceAdd, lg, st1, st2, lkill, lset, fvv, sfv, kind3, cat1, retI, retA, List.length_cons, List.length_nil, true_and, and_true, or_true, true_or, qX9_soundsOf]
  refine sX9_soundsOf_2 hb.lgs.1 (e_isLanguage hb ?_)
  simp only [cont, Option.toList, List.cons_append, List.nil_append]
  refine sX9_soundsOf_5 (by decide) (e_requireThere (fun q => ?_) fun q n hn => hx (bi_0.mp q) n hn)
  simp only [cont, Option.toList, List.cons_append, List.nil_append]
  obtain ⟨l, hl, rfl⟩ := inb_t (by omega) (ts_nf fun e => q (bi_0.mpr e))
  refine rX9_soundsOf_8 ?_
  simp only [bX9_soundsOf_8, run, Nat.reduceAdd, lg, st1, st2, lkill, lset, fvv, sfv, kind3, cat1, retI, retA, List.length_cons, List.length_nil, true_and, and_true, or_true, true_or, qX9_soundsOf, hb.1.1.1, hb.1.1.2.2.2.2.1, not_true_eq_false, not_false_eq_true, false_implies, true_and, and_true, tti]
  refine sX9_soundsOf_12 hb.2.2.1.2.1 (e_frA w hf fun h2 fc kn => ?_)
  simp only [cont, Option.toList, List.cons_append, List.nil_append]
  refine rX9_soundsOf_15 ?_
  simp only [bX9_soundsOf_15, run, Nat.reduceAdd, lg, st1, st2, lkill, lset, fvv, sfv, kind3, cat1, retI, retA, List.length_cons, List.length_nil, true_and, and_true, or_true, true_or, qX9_soundsOf]
  refine sX9_soundsOf_17 kn.1.b.lgs.1 (e_collectSounds kn hl ?_)
  simp only [cont, Option.toList, List.cons_append, List.nil_append]
  refine rX9_soundsOf_20 ?_
  simp only [bX9_soundsOf_20, run, Nat.reduceAdd, lg, st1, st2, lkill, lset, fvv, sfv, kind3, cat1, retI, retA, List.length_cons, List.length_nil, true_and, and_true, or_true, true_or, qX9_soundsOf]
  exact hq l hl rfl h2 fc kn.1
