/-! ===== spell, laws, common ===== -/
theorem e_spell {g : Gp} {x : Int32} {h : AH} {Q : PQ} {f : Nat → Nat} {gv : Nat → List Nat} {op : Nat} {D : HD} (hf : FamR h f gv op D)
    (hq : ∀ s m, s < 16 → x = nI s → op = m + 1 → (gv m).length < 10 → ∀ h', Fc h h' → FamR h' f (gup gv m (gv m ++ [s])) op D → Q (.inl (some (vI (nI ((gv m).length + 1))))) h')
    (hx : inb x 16 = false → ∀ n, zN h ≤ n → Q (.inr 2) (bump h n))
    (hy : inb x 16 = true → (op = 0 ∨ (gv (op - 1)).length = 10) → ∀ n, zN h ≤ n → Q (.inr 3) (bump h n)) : Ev g mX9_spell [vR 4, vI x] h Q := by
  have hb := hf.b
  have c1 := hb.1.1.1
  have c2 := hb.1.1.2.2.1
  have io := hb.1.2.1
  have o12 := hb.1.2.2.1
  have gr := hb.2.1.2
  refine nX9_spell ?_
  refine Ex.wf (fun w => ?_)
  refine rX9_spell_0 ?_
  simp only [bX9_spell_0, run, Nat.reduceAdd, lg, st1, st2, lkill, lset, fvv, sfv, kind3, cat1, retI, retA, List.length_cons, List.length_nil, true_and, and_true, or_true, true_or, qX9_spell]
  refine sX9_spell_1 (e_isSound ?_)
  simp only [cont, Option.toList, List.cons_append, List.nil_append]
  refine sX9_spell_4 (by decide) (e_refuseUnless (fun q => ?_) fun q n hn => hx (bi_0.mp q) n hn)
  simp only [cont, Option.toList, List.cons_append, List.nil_append]
  have hin := ts_nf fun e => q (bi_0.mpr e)
  obtain ⟨s, hs, rfl⟩ := inb_t (by decide) hin
  have bad : (op = 0 ∨ (gv (op - 1)).length = 10) → Ex g mX9_spell 37 [vR 4, vI (nI s)] [vI 0] h (0 + 1, 0 + 6) Q := fun e =>
    sX9_spell_37 (by decide) (e_requireState (fun q => absurd rfl q) fun _ n hn => hy hin e n hn)
  cases op with
  | zero =>
    refine rX9_spell_7 ?_
    simp only [bX9_spell_7, run, Nat.reduceAdd, lg, st1, st2, lkill, lset, fvv, sfv, kind3, cat1, retI, retA, List.length_cons, List.length_nil, true_and, and_true, or_true, true_or, qX9_spell, c1, c2, io, show bI 0 = -1 from rfl, not_true_eq_false, not_false_eq_true, false_implies, true_and, and_true, tti]
    refine rX9_spell_36 ?_
    simp only [bX9_spell_36, run, Nat.reduceAdd, lg, st1, st2, lkill, lset, fvv, sfv, kind3, cat1, retI, retA, List.length_cons, List.length_nil, true_and, and_true, or_true, true_or, qX9_spell]
    exact bad (Or.inl rfl)
  | succ m =>
    have hm : m < 12 := by omega
    have km : (nI m).toNatClampNeg = m := nI_clamp (by omega)
    have ne : nI m = -1 ↔ False := ⟨nI_m1 (by omega), False.elim⟩
    obtain ⟨wk, gl⟩ := gr.2 m hm
    have wk1 := wk.1
    refine rX9_spell_7 ?_
    simp only [bX9_spell_7, run, Nat.reduceAdd, lg, st1, st2, lkill, lset, fvv, sfv, kind3, cat1, retI, retA, List.length_cons, List.length_nil, true_and, and_true, or_true, true_or, qX9_spell, c1, c2, io, bI_s, ne, gr.1, km, gl, not_true_eq_false, not_false_eq_true, false_implies, true_and, and_true, tti]
    refine ⟨vp_in_nI (by omega) (by omega), sX9_spell_24 (e_size wk ?_)⟩
    simp only [cont, Option.toList, List.cons_append, List.nil_append]
    by_cases h10 : (gv m).length = 10
    · refine rX9_spell_27 ?_
      simp only [bX9_spell_27, run, Nat.reduceAdd, lg, st1, st2, lkill, lset, fvv, sfv, kind3, cat1, retI, retA, List.length_cons, List.length_nil, true_and, and_true, or_true, true_or, qX9_spell, show (10 : Int32) ≤ nI (gv m).length ↔ True from ⟨fun _ => trivial, fun _ => by rw [h10]; decide⟩, not_true_eq_false, not_false_eq_true, false_implies, true_and, and_true, tti]
      refine rX9_spell_36 ?_
      simp only [bX9_spell_36, run, Nat.reduceAdd, lg, st1, st2, lkill, lset, fvv, sfv, kind3, cat1, retI, retA, List.length_cons, List.length_nil, true_and, and_true, or_true, true_or, qX9_spell]
      exact bad (Or.inr h10)
    · refine rX9_spell_27 ?_
      simp only [bX9_spell_27, run, Nat.reduceAdd, lg, st1, st2, lkill, lset, fvv, sfv, kind3, cat1, retI, retA, List.length_cons, List.length_nil, true_and, and_true, or_true, true_or, qX9_spell, show (10 : Int32) ≤ nI (gv m).length ↔ False from ⟨nI_ge (b := 10) (by omega) (by omega), False.elim⟩, not_true_eq_false, not_false_eq_true, false_implies, true_and, and_true, tti]
      refine sX9_spell_37 (by decide) (e_requireState (fun _ => ?_) fun q => absurd q (by decide))
      simp only [cont, Option.toList, List.cons_append, List.nil_append]
      refine rX9_spell_40 ?_
      simp only [bX9_spell_40, run, Nat.reduceAdd, lg, st1, st2, lkill, lset, fvv, sfv, kind3, cat1, retI, retA, List.length_cons, List.length_nil, true_and, and_true, or_true, true_or, qX9_spell, c1, c2, io, bI_s, gr.1, km, gl, not_true_eq_false, not_false_eq_true, false_implies, true_and, and_true, tti]
      refine ⟨vp_in_nI (by omega) (by omega), sX9_spell_58 (e_plus wk (by omega) hs ?_)⟩
      simp only [cont, Option.toList, List.cons_append, List.nil_append]
      have wk2 : Wok (gv m ++ [s]) := ⟨by simp; omega, fun t ht => (List.mem_append.mp ht).elim (wk.2 t) fun q => by simp at q; omega⟩
      have gr2 := gr.up (m := m) wk2
      have kp : Kp (fun a => a = 24) h (sL h 24 m (eC (gv m ++ [s]))) := Kp.sL rfl
      have fb2 : FamB (sL h 24 m (eC (gv m ++ [s]))) f (gup gv m (gv m ++ [s])) (m + 1) D :=
        hb.kp2 w kp (fun a q => by omega) (fun a _ => rfl) (hb.2.1.1.kp w kp fun a q1 q2 q3 => by omega) gr2 io o12
      refine rX9_spell_61 ?_
      simp only [bX9_spell_61, run, Nat.reduceAdd, lg, st1, st2, lkill, lset, fvv, sfv, kind3, cat1, retI, retA, List.length_cons, List.length_nil, true_and, and_true, or_true, true_or, qX9_spell, kL, kI, kD, kR, rL, rI, rD, iL, iD, iR, lI, lD, lR, c1, c2, io, bI_s, gr.1, km, not_true_eq_false, not_false_eq_true, false_implies, true_and, and_true, tti]
      refine ⟨vp_in_nI (by omega) (by omega), sX9_spell_67 fb2.lgs.1 (e_forgetMeaning fb2 hm fun h3 fg => ?_)⟩
      simp only [cont, Option.toList, List.cons_append, List.nil_append]
      have l4 : ∀ c, c ≠ 24 → zL (sL h 24 m (eC (gv m ++ [s]))) c = zL h c := fun c hc => zL_n hc
      have w2 : Wf (sL h 24 m (eC (gv m ++ [s]))) := w
      have fr := hf.gtell w2 hm fb2 ⟨rfl, rfl, ⟨l4 _ (by decide), rfl, rfl⟩, ⟨l4 _ (by decide), rfl, rfl⟩, fun k hk => rfl⟩ fg
      have hb3 := fr.b
      have g3 := hb3.2.1.2
      have e3 : gup gv m (gv m ++ [s]) m = gv m ++ [s] := if_pos rfl
      have g3m := g3.2 m hm
      rw [e3] at g3m
      refine rX9_spell_70 ?_
      simp only [bX9_spell_70, run, Nat.reduceAdd, lg, st1, st2, lkill, lset, fvv, sfv, kind3, cat1, retI, retA, List.length_cons, List.length_nil, true_and, and_true, or_true, true_or, qX9_spell, hb3.1.1.1, hb3.1.1.2.2.1, hb3.1.2.1, bI_s, g3.1, km, g3m.2, not_true_eq_false, not_false_eq_true, false_implies, true_and, and_true, tti]
      refine ⟨vp_in_nI (by omega) (by omega), sX9_spell_79 (e_size wk2 ?_)⟩
      simp only [cont, Option.toList, List.cons_append, List.nil_append]
      refine rX9_spell_82 ?_
      simp only [bX9_spell_82, run, Nat.reduceAdd, lg, st1, st2, lkill, lset, fvv, sfv, kind3, cat1, retI, retA, List.length_cons, List.length_nil, true_and, and_true, or_true, true_or, qX9_spell]
      rw [List.length_append]
      exact hq s m hs rfl rfl (by omega) h3 ((kp.fc fun a q => by omega).tr (fg.2.2.1.fc fun a q => by omega)) fr
theorem e_laws {g : Gp} {x : Int32} {h : AH} {Q : PQ} {f : Nat → Nat} {gv : Nat → List Nat} {op : Nat} {D : HD} (hf : FamR h f gv op D)
    (hq : ∀ l, l < D.1 → x = nI l → Q (.inl (some (vI (nI (D.2.2.1 l).length)))) h)
    (hx : inb x D.1 = false → ∀ n, zN h ≤ n → Q (.inr 1) (bump h n)) : Ev g mX9_laws [vR 4, vI x] h Q := by
  have hb := hf.b
  have hD := hb.ok.2.1
  refine nX9_laws ?_
  refine rX9_laws_0 ?_
  simp only [bX9_laws_0, run, Nat.reduceAdd, lg, st1, st2, lkill, lset, fvv, sfv, kind3, cat1, retI, retA, List.length_cons, List.length_nil, true_and, and_true, or_true, true_or, qX9_laws]
  refine sX9_laws_2 hb.lgs.1 (e_isLanguage hb ?_)
  simp only [cont, Option.toList, List.cons_append, List.nil_append]
  refine sX9_laws_5 (by decide) (e_requireThere (fun q => ?_) fun q n hn => hx (bi_0.mp q) n hn)
  simp only [cont, Option.toList, List.cons_append, List.nil_append]
  obtain ⟨l, hl, rfl⟩ := inb_t (by omega) (ts_nf fun e => q (bi_0.mpr e))
  refine rX9_laws_8 ?_
  simp only [bX9_laws_8, run, Nat.reduceAdd, lg, st1, st2, lkill, lset, fvv, sfv, kind3, cat1, retI, retA, List.length_cons, List.length_nil, true_and, and_true, or_true, true_or, qX9_laws]
  refine sX9_laws_10 hb.lgs.1 (e_lawsOf hb hl fun y a e ys _ _ _ ls el _ => ?_)
  simp only [cont, Option.toList, List.cons_append, List.nil_append]
  refine sX9_laws_13 ls.1 (l_size ls ?_)
  simp only [cont, Option.toList, List.cons_append, List.nil_append]
  refine rX9_laws_16 ?_
  simp only [bX9_laws_16, run, Nat.reduceAdd, lg, st1, st2, lkill, lset, fvv, sfv, kind3, cat1, retI, retA, List.length_cons, List.length_nil, true_and, and_true, or_true, true_or, qX9_laws]
  rw [el]
  exact hq l hl rfl
/-- the nearest ancestor of two languages, by the class's steps -/
def cmn (p : Nat → Nat) : Nat → Nat → Nat → Nat
  | 0, a, _ => a
  | n + 1, a, b => if a = b then a else if b < a then cmn p n (p a) b else cmn p n a (p b)
theorem e_common {g : Gp} {x y : Int32} {h : AH} {Q : PQ} {f : Nat → Nat} {gv : Nat → List Nat} {op : Nat} {D : HD} (hf : FamR h f gv op D)
    (hq : ∀ l k, l < D.1 → k < D.1 → x = nI l → y = nI k → Q (.inl (some (vI (nI (cmn D.2.1 20 l k))))) h)
    (hx : (inb x D.1 && inb y D.1) = false → ∀ n, zN h ≤ n → Q (.inr 1) (bump h n)) : Ev g mX9_common [vR 4, vI x, vI y] h Q := by
  have hb := hf.b
  have hD := hb.ok
  have hD1 := hD.2.1
  obtain ⟨c1, c2, c3, c4, e, xs, c5, c6, c7⟩ := hb.lgs
  refine nX9_common ?_
  have bad : (inb x D.1 && inb y D.1) = false → Ex g mX9_common 21 [vR 4, vI x, vI y, vU, vU, vU] [vI 0] h (0, 0) Q := fun e =>
    sX9_common_21 (by decide) (e_requireThere (fun q => absurd rfl q) fun _ n hn => hx e n hn)
  refine rX9_common_0 ?_
  simp only [bX9_common_0, run, Nat.reduceAdd, lg, st1, st2, lkill, lset, fvv, sfv, kind3, cat1, retI, retA, List.length_cons, List.length_nil, true_and, and_true, or_true, true_or, qX9_common]
  refine sX9_common_2 c1 (e_isLanguage hb ?_)
  simp only [cont, Option.toList, List.cons_append, List.nil_append]
  cases h1 : inb x D.1 with
  | false =>
    refine rX9_common_5 ?_
    simp only [bX9_common_5, run, Nat.reduceAdd, lg, st1, st2, lkill, lset, fvv, sfv, kind3, cat1, retI, retA, List.length_cons, List.length_nil, true_and, and_true, or_true, true_or, qX9_common, show bi false = 0 from rfl, not_true_eq_false, not_false_eq_true, false_implies, true_and, and_true, tti]
    refine rX9_common_20 ?_
    simp only [bX9_common_20, run, Nat.reduceAdd, lg, st1, st2, lkill, lset, fvv, sfv, kind3, cat1, retI, retA, List.length_cons, List.length_nil, true_and, and_true, or_true, true_or, qX9_common]
    exact bad (by rw [h1]; rfl)
  | true =>
    refine rX9_common_5 ?_
    simp only [bX9_common_5, run, Nat.reduceAdd, lg, st1, st2, lkill, lset, fvv, sfv, kind3, cat1, retI, retA, List.length_cons, List.length_nil, true_and, and_true, or_true, true_or, qX9_common, show ¬ bi true = 0 by decide, not_true_eq_false, not_false_eq_true, false_implies, true_and, and_true, tti]
    refine sX9_common_10 c1 (e_isLanguage hb ?_)
    simp only [cont, Option.toList, List.cons_append, List.nil_append]
    cases h2 : inb y D.1 with
    | false =>
      refine rX9_common_13 ?_
      simp only [bX9_common_13, run, Nat.reduceAdd, lg, st1, st2, lkill, lset, fvv, sfv, kind3, cat1, retI, retA, List.length_cons, List.length_nil, true_and, and_true, or_true, true_or, qX9_common, show bi false = 0 from rfl, not_true_eq_false, not_false_eq_true, false_implies, true_and, and_true, tti]
      refine rX9_common_20 ?_
      simp only [bX9_common_20, run, Nat.reduceAdd, lg, st1, st2, lkill, lset, fvv, sfv, kind3, cat1, retI, retA, List.length_cons, List.length_nil, true_and, and_true, or_true, true_or, qX9_common]
      exact bad (by rw [h1, h2]; rfl)
    | true =>
      refine rX9_common_13 ?_
      simp only [bX9_common_13, run, Nat.reduceAdd, lg, st1, st2, lkill, lset, fvv, sfv, kind3, cat1, retI, retA, List.length_cons, List.length_nil, true_and, and_true, or_true, true_or, qX9_common, show ¬ bi true = 0 by decide, not_true_eq_false, not_false_eq_true, false_implies, true_and, and_true, tti]
      refine sX9_common_21 (by decide) (e_requireThere (fun _ => ?_) fun q => absurd q (by decide))
      simp only [cont, Option.toList, List.cons_append, List.nil_append]
      obtain ⟨l, hl, rfl⟩ := inb_t (by omega) h1
      obtain ⟨k, hk, rfl⟩ := inb_t (by omega) h2
      have z := hq l k hl hk rfl rfl
      have lp : ∀ d t a b, t + d = 20 → a < D.1 → b < D.1 → Q (.inl (some (vI (nI (cmn D.2.1 d a b))))) h → Ex g mX9_common 32 [vR 4, vI (nI l), vI (nI k), vI (nI a), vI (nI b), vI (nI t)] [] h (0 + 1, 0 + 6) Q := by
        intro d
        induction d with
        | zero =>
          intro t a b ht ha hb2 q
          have e : t = 20 := by omega
          subst e
          refine rX9_common_32 ?_
          simp only [bX9_common_32, run, Nat.reduceAdd, lg, st1, st2, lkill, lset, fvv, sfv, kind3, cat1, retI, retA, List.length_cons, List.length_nil, true_and, and_true, or_true, true_or, qX9_common, show ((20 : Int32) ≤ nI 20) = True by decide, not_true_eq_false, not_false_eq_true, false_implies, true_and, and_true, tti]
          refine rX9_common_98 ?_
          simp only [bX9_common_98, run, Nat.reduceAdd, lg, st1, st2, lkill, lset, fvv, sfv, kind3, cat1, retI, retA, List.length_cons, List.length_nil, true_and, and_true, or_true, true_or, qX9_common]
          exact q
        | succ d ih =>
          intro t a b ht ha hb2 q
          unfold cmn at q
          have nle : (20 : Int32) ≤ nI t ↔ False := ⟨nI_ge (b := 20) (by omega) (by omega), False.elim⟩
          by_cases e1 : a = b
          · rw [if_pos e1] at q
            refine rX9_common_32 ?_
            simp only [bX9_common_32, run, Nat.reduceAdd, lg, st1, st2, lkill, lset, fvv, sfv, kind3, cat1, retI, retA, List.length_cons, List.length_nil, true_and, and_true, or_true, true_or, qX9_common, nle, show nI a = nI b ↔ True from ⟨fun _ => trivial, fun _ => by rw [e1]⟩, not_true_eq_false, not_false_eq_true, false_implies, true_and, and_true, tti]
            refine rX9_common_98 ?_
            simp only [bX9_common_98, run, Nat.reduceAdd, lg, st1, st2, lkill, lset, fvv, sfv, kind3, cat1, retI, retA, List.length_cons, List.length_nil, true_and, and_true, or_true, true_or, qX9_common]
            exact q
          · rw [if_neg e1] at q
            have n1 : nI a = nI b ↔ False := ⟨fun q => e1 ((nI_eq (by omega) (by omega)).mp q), False.elim⟩
            by_cases e2 : b < a
            · rw [if_pos e2] at q
              have hp := hD.2.2.1 a (by omega) ha
              obtain ⟨d1, d2, -⟩ := c7 a ha
              rw [show pc D.2.1 a = D.2.1 a + 1 from if_neg (by omega), bI_s] at d2
              refine rX9_common_32 ?_
              simp only [bX9_common_32, run, Nat.reduceAdd, lg, st1, st2, lkill, lset, fvv, sfv, kind3, cat1, retI, retA, List.length_cons, List.length_nil, true_and, and_true, or_true, true_or, qX9_common, nle, n1, show nI a ≤ nI b ↔ False from ⟨nI_ge e2 (by omega), False.elim⟩, c1, c2, c3, c4, not_true_eq_false, not_false_eq_true, false_implies, true_and, and_true, tti]
              refine sX9_common_59 c5.1 (l_get c5 (by omega) ?_)
              simp only [cont, Option.toList, List.cons_append, List.nil_append]
              refine rX9_common_62 ?_
              simp only [bX9_common_62, run, Nat.reduceAdd, lg, st1, st2, lkill, lset, fvv, sfv, kind3, cat1, retI, retA, List.length_cons, List.length_nil, true_and, and_true, or_true, true_or, qX9_common, d1, d2, nI_1, not_true_eq_false, not_false_eq_true, false_implies, true_and, and_true, tti]
              exact ih (t + 1) _ b (by omega) (by omega) hb2 q
            · rw [if_neg e2] at q
              have hp := hD.2.2.1 b (by omega) hb2
              obtain ⟨d1, d2, -⟩ := c7 b hb2
              rw [show pc D.2.1 b = D.2.1 b + 1 from if_neg (by omega), bI_s] at d2
              refine rX9_common_32 ?_
              simp only [bX9_common_32, run, Nat.reduceAdd, lg, st1, st2, lkill, lset, fvv, sfv, kind3, cat1, retI, retA, List.length_cons, List.length_nil, true_and, and_true, or_true, true_or, qX9_common, nle, n1, show nI a ≤ nI b ↔ True from ⟨fun _ => trivial, fun _ => nI_le (by omega) (by omega)⟩, not_true_eq_false, not_false_eq_true, false_implies, true_and, and_true, tti]
              refine rX9_common_72 ?_
              simp only [bX9_common_72, run, Nat.reduceAdd, lg, st1, st2, lkill, lset, fvv, sfv, kind3, cat1, retI, retA, List.length_cons, List.length_nil, true_and, and_true, or_true, true_or, qX9_common, c1, c2, c3, c4, not_true_eq_false, not_false_eq_true, false_implies, true_and, and_true, tti]
              refine sX9_common_81 c5.1 (l_get c5 (by omega) ?_)
              simp only [cont, Option.toList, List.cons_append, List.nil_append]
              refine rX9_common_84 ?_
              simp only [bX9_common_84, run, Nat.reduceAdd, lg, st1, st2, lkill, lset, fvv, sfv, kind3, cat1, retI, retA, List.length_cons, List.length_nil, true_and, and_true, or_true, true_or, qX9_common, d1, d2, nI_1, not_true_eq_false, not_false_eq_true, false_implies, true_and, and_true, tti]
              exact ih (t + 1) a _ (by omega) ha (by omega) q
      refine rX9_common_24 ?_
      simp only [bX9_common_24, run, Nat.reduceAdd, lg, st1, st2, lkill, lset, fvv, sfv, kind3, cat1, retI, retA, List.length_cons, List.length_nil, true_and, and_true, or_true, true_or, qX9_common]
      exact lp 20 0 l k rfl hl hk z
