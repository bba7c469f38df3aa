/-- a family whose actual words are all known -/
def KnA (h : AH) (f : Nat → Nat) (gv : Nat → List Nat) (op : Nat) (D : HD) : Prop := FamR h f gv op D ∧ ∀ m, m < 12 → ∀ l, l < D.1 → CR h 32 (l * 12 + m) (cel D f gv m l)
theorem e_frA {g : Gp} {h : AH} {Q : PQ} {f : Nat → Nat} {gv : Nat → List Nat} {op : Nat} {D : HD} (w : Wf h) (hf : FamR h f gv op D)
    (hq : ∀ h', Fc h h' → KnA h' f gv op D → Q (.inl none) h') : Ev g mX4_freshenAll [vR 31] h Q := by
  obtain ⟨⟨⟨c1, c2, c3, c4, c5, c6, c7, c8, c9, c10, c11, c12, c13, c14, c15, c16⟩, -⟩, ⟨sn, gr⟩, ⟨hs, lx⟩, -⟩ := id hf
  refine e_freshenAll lx (by rw [c15]; exact hs) hf.b.ok sn gr fun h' kp lx' f1 => ?_
  have fr := hf.fr1 w kp lx'
  exact hq h' (kp.fc fun a q => by omega) ⟨fr, fun m hm => (fr.at1 hm (f1 m hm)).2⟩
theorem KnA.ok {h : AH} {f : Nat → Nat} {gv : Nat → List Nat} {op m l : Nat} {D : HD} (k : KnA h f gv op D) (hm : m < 12) (hl : l < D.1) : cOk 12 9 (cel D f gv m l) := cel_ok k.1.b.ok (k.1.b.2.1.2.2 m hm).1 hl
/-- how many of the first n meanings a language has words for -/
def wlt (D : HD) (f : Nat → Nat) (gv : Nat → List Nat) (l : Nat) : Nat → Nat
  | 0 => 0
  | m + 1 => if (cel D f gv m l).1 = [] then wlt D f gv l m else wlt D f gv l m + 1
theorem e_countWords {g : Gp} {l : Nat} {h : AH} {Q : PQ} {f : Nat → Nat} {gv : Nat → List Nat} {op : Nat} {D : HD} (kn : KnA h f gv op D) (hl : l < D.1) (hq : Q (.inl (some (vI (nI (wlt D f gv l 12))))) h) : Ev g mX9_countWords [vR 4, vI (nI l)] h Q := by
  have hb := kn.1.b
  have hD1 := hb.ok.2.1
  refine nX9_countWords ?_
  have lp : ∀ d m, m + d = 12 → Ex g mX9_countWords 4 [vR 4, vI (nI l), vI (nI (wlt D f gv l m)), vI (nI m)] [] h (0, 0) Q := by
    intro d
    induction d with
    | zero =>
      intro m hm
      have e : m = 12 := by omega
      subst e
      refine rX9_countWords_4 ?_
      simp only [bX9_countWords_4, run, Nat.reduceAdd, lg, st1, st2, lkill, lset, fvv, sfv, kind3, cat1, retI, retA, List.length_cons, List.length_nil, true_and, and_true, or_true, true_or, qX9_countWords, show ((12 : Int32) ≤ nI 12) = True by decide, not_true_eq_false, not_false_eq_true, false_implies, true_and, and_true, tti]
      refine rX9_countWords_31 ?_
      simp only [bX9_countWords_31, run, Nat.reduceAdd, lg, st1, st2, lkill, lset, fvv, sfv, kind3, cat1, retI, retA, List.length_cons, List.length_nil, true_and, and_true, or_true, true_or, qX9_countWords]
      exact hq
    | succ d ih =>
      intro m hm
      have z := ih (m + 1) (by omega)
      unfold wlt at z
      refine rX9_countWords_4 ?_
      simp only [bX9_countWords_4, run, Nat.reduceAdd, lg, st1, st2, lkill, lset, fvv, sfv, kind3, cat1, retI, retA, List.length_cons, List.length_nil, true_and, and_true, or_true, true_or, qX9_countWords, show ((12 : Int32) ≤ nI m) ↔ False from ⟨nI_ge (b := 12) (by omega) (by omega), False.elim⟩, hb.1.1.1, hb.1.1.2.2.2.2.1, not_true_eq_false, not_false_eq_true, false_implies, true_and, and_true, tti]
      refine sX9_countWords_16 hb.2.2.1.2.1 (e_hasWord hb.2.2.1.2 (kn.ok (by omega) hl).1 (by omega) (by omega) (kn.2 m (by omega) l hl).1 ?_)
      simp only [cont, Option.toList, List.cons_append, List.nil_append]
      by_cases hw : (cel D f gv m l).1 = []
      · rw [if_pos hw] at z
        refine rX9_countWords_19 ?_
        simp only [bX9_countWords_19, run, Nat.reduceAdd, lg, st1, st2, lkill, lset, fvv, sfv, kind3, cat1, retI, retA, List.length_cons, List.length_nil, true_and, and_true, or_true, true_or, qX9_countWords, if_pos hw, not_true_eq_false, not_false_eq_true, false_implies, true_and, and_true, tti]
        refine rX9_countWords_25 ?_
        simp only [bX9_countWords_25, run, Nat.reduceAdd, lg, st1, st2, lkill, lset, fvv, sfv, kind3, cat1, retI, retA, List.length_cons, List.length_nil, true_and, and_true, or_true, true_or, qX9_countWords, nI_1]
        exact z
      · rw [if_neg hw] at z
        refine rX9_countWords_19 ?_
        simp only [bX9_countWords_19, run, Nat.reduceAdd, lg, st1, st2, lkill, lset, fvv, sfv, kind3, cat1, retI, retA, List.length_cons, List.length_nil, true_and, and_true, or_true, true_or, qX9_countWords, if_neg hw, show ¬ (1 : Int32) = 0 by decide, nI_1, not_true_eq_false, not_false_eq_true, false_implies, true_and, and_true, tti]
        exact z
  refine rX9_countWords_0 ?_
  simp only [bX9_countWords_0, run, Nat.reduceAdd, lg, st1, st2, lkill, lset, fvv, sfv, kind3, cat1, retI, retA, List.length_cons, List.length_nil, true_and, and_true, or_true, true_or, qX9_countWords]
  exact lp 12 0 rfl
theorem e_wealth {g : Gp} {x : Int32} {h : AH} {Q : PQ} {f : Nat → Nat} {gv : Nat → List Nat} {op : Nat} {D : HD} (hf : FamR h f gv op D)
    (hq : ∀ l, l < D.1 → x = nI l → ∀ h', Fc h h' → FamR h' f gv op D → Q (.inl (some (vI (nI (wlt D f gv l 12))))) h')
    (hx : inb x D.1 = false → ∀ n, zN h ≤ n → Q (.inr 1) (bump h n)) : Ev g mX9_wealth [vR 4, vI x] h Q := by
  have hb := hf.b
  have hD1 := hb.ok.2.1
  refine nX9_wealth ?_
  refine Ex.wf (fun w => ?_)
  refine rX9_wealth_0 ?_
  simp only [bX9_wealth_0, run, Nat.reduceAdd, lg, st1, st2, lkill, lset, fvv, sfv, kind3, cat1, retI, retA, List.length_cons, List.length_nil, true_and, and_true, or_true, true_or, qX9_wealth]
  refine sX9_wealth_2 hb.lgs.1 (e_isLanguage hb ?_)
  simp only [cont, Option.toList, List.cons_append, List.nil_append]
  refine sX9_wealth_5 (by decide) (e_requireThere (fun q => ?_) fun q n hn => hx (bi_0.mp q) n hn)
  simp only [cont, Option.toList, List.cons_append, List.nil_append]
  obtain ⟨l, hl, rfl⟩ := inb_t (by omega) (ts_nf fun e => q (bi_0.mpr e))
  refine rX9_wealth_8 ?_
  simp only [bX9_wealth_8, run, Nat.reduceAdd, lg, st1, st2, lkill, lset, fvv, sfv, kind3, cat1, retI, retA, List.length_cons, List.length_nil, true_and, and_true, or_true, true_or, qX9_wealth, hb.1.1.1, hb.1.1.2.2.2.2.1, not_true_eq_false, not_false_eq_true, false_implies, true_and, and_true, tti]
  refine sX9_wealth_12 hb.2.2.1.2.1 (e_frA w hf fun h2 fc kn => ?_)
  simp only [cont, Option.toList, List.cons_append, List.nil_append]
  refine rX9_wealth_15 ?_
  simp only [bX9_wealth_15, run, Nat.reduceAdd, lg, st1, st2, lkill, lset, fvv, sfv, kind3, cat1, retI, retA, List.length_cons, List.length_nil, true_and, and_true, or_true, true_or, qX9_wealth]
  refine sX9_wealth_17 kn.1.b.lgs.1 (e_countWords kn hl ?_)
  simp only [cont, Option.toList, List.cons_append, List.nil_append]
  refine rX9_wealth_20 ?_
  simp only [bX9_wealth_20, run, Nat.reduceAdd, lg, st1, st2, lkill, lset, fvv, sfv, kind3, cat1, retI, retA, List.length_cons, List.length_nil, true_and, and_true, or_true, true_or, qX9_wealth]
  exact hq l hl rfl h2 fc kn.1
