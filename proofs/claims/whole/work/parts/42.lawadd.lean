theorem getD_snocG {α : Type} {xs : List α} {c d : α} {l : Nat} : (xs ++ [c]).getD l d = if l = xs.length then c else xs.getD l d := by
  by_cases h : l = xs.length
  · rw [if_pos h, h, List.getD_eq_getElem?_getD, List.getElem?_append_right (Nat.le_refl _), Nat.sub_self]; rfl
  · rw [if_neg h]
    by_cases h2 : l < xs.length
    · rw [List.getD_eq_getElem?_getD, List.getElem?_append_left h2, ← List.getD_eq_getElem?_getD]
    · rw [List.getD_eq_getElem?_getD, List.getD_eq_getElem?_getD, List.getElem?_eq_none (by simp; omega), List.getElem?_eq_none (by omega)]
theorem e_law {g : Gp} {x a1 a2 a3 a4 : Int32} {h : AH} {Q : PQ} {f : Nat → Nat} {gv : Nat → List Nat} {op : Nat} {D : HD} (hf : FamR h f gv op D)
    (hq : ∀ l s b p q, l < D.1 → x = nI l → lwOk (s, b, p, q) → 1 ≤ s → a1 = nI s → a2 = bI b → a3 = nI p → a4 = nI q → 0 < l → (D.2.2.1 l).length < 8 → ∀ h', Fc h h' → FamR h' f gv op (setW D l (D.2.2.1 l ++ [(s, b, p, q)])) → Q (.inl (some (vI (nI ((D.2.2.1 l).length + 1))))) h')
    (hx : inb x D.1 = false → ∀ n, zN h ≤ n → Q (.inr 1) (bump h n))
    (hx2 : inb x D.1 = true → (okS a1 && okB a2 && (inb a3 131072 && inb a4 131072)) = false → ∀ h', Kn h h' → FamR h' f gv op D → Q (.inr 2) h')
    (hy : ∀ l, l < D.1 → x = nI l → (okS a1 && okB a2 && (inb a3 131072 && inb a4 131072)) = true → (l = 0 ∨ (D.2.2.1 l).length = 8) → ∀ h', Kn h h' → FamR h' f gv op D → Q (.inr 3) h') : Ev g mX9_law [vR 4, vI x, vI a1, vI a2, vI a3, vI a4] h Q := by
  have hb := hf.b
  have hD := hb.ok
  have hD1 := hD.2.1
  have bmp : ∀ n, zN h ≤ n → FamR (bump h n) f gv op D := fun n _ => hf
  refine nX9_law ?_
  refine Ex.wf (fun w => ?_)
  refine rX9_law_0 ?_
  simp only [bX9_law_0, run, Nat.reduceAdd, lg, st1, st2, lkill, lset, fvv, sfv, kind3, cat1, retI, retA, List.length_cons, List.length_nil, true_and, and_true, or_true, true_or, qX9_law]
  refine sX9_law_2 hb.lgs.1 (e_isLanguage hb ?_)
  simp only [cont, Option.toList, List.cons_append, List.nil_append]
  refine sX9_law_5 (by decide) (e_requireThere (fun q => ?_) fun q n hn => hx (bi_0.mp q) n hn)
  simp only [cont, Option.toList, List.cons_append, List.nil_append]
  have hin := ts_nf fun e => q (bi_0.mpr e)
  obtain ⟨l, hl, rfl⟩ := inb_t (by omega) hin
  have h8 := hD.2.2.2.1 l hl
  have bad1 : (okS a1 && okB a2) = false → Ex g mX9_law 34 [vR 4, vI (nI l), vI a1, vI a2, vI a3, vI a4, vU] [] h (1, 6) Q := fun e => by
    refine rX9_law_34 ?_
    simp only [bX9_law_34, run, Nat.reduceAdd, lg, st1, st2, lkill, lset, fvv, sfv, kind3, cat1, retI, retA, List.length_cons, List.length_nil, true_and, and_true, or_true, true_or, qX9_law]
    exact sX9_law_35 (by decide) (e_refuseUnless (fun q => absurd rfl q) fun _ n hn => hx2 hin (by rw [e]; rfl) _ (Kp.bump hn) (bmp n hn))
  have cont38 : (okS a1 && okB a2) = true → Ex g mX9_law 35 [vR 4, vI (nI l), vI a1, vI a2, vI a3, vI a4, vU] [vI 1] h (1, 6) Q := fun e12 => by
    refine sX9_law_35 (by decide) (e_refuseUnless (fun _ => ?_) fun q => absurd q (by decide))
    simp only [cont, Option.toList, List.cons_append, List.nil_append]
    have bad2 : (inb a3 131072 && inb a4 131072) = false → Ex g mX9_law 58 [vR 4, vI (nI l), vI a1, vI a2, vI a3, vI a4, vU] [] h (2, 12) Q := fun e => by
      refine rX9_law_58 ?_
      simp only [bX9_law_58, run, Nat.reduceAdd, lg, st1, st2, lkill, lset, fvv, sfv, kind3, cat1, retI, retA, List.length_cons, List.length_nil, true_and, and_true, or_true, true_or, qX9_law]
      exact sX9_law_59 (by decide) (e_refuseUnless (fun q => absurd rfl q) fun _ n hn => hx2 hin (by rw [e, Bool.and_false]) _ (Kp.bump hn) (bmp n hn))
    refine rX9_law_38 ?_
    simp only [bX9_law_38, run, Nat.reduceAdd, lg, st1, st2, lkill, lset, fvv, sfv, kind3, cat1, retI, retA, List.length_cons, List.length_nil, true_and, and_true, or_true, true_or, qX9_law]
    refine sX9_law_40 (e_neigh ?_)
    simp only [cont, Option.toList, List.cons_append, List.nil_append]
    cases e3 : inb a3 131072 with
    | false =>
      refine rX9_law_43 ?_
      simp only [bX9_law_43, run, Nat.reduceAdd, lg, st1, st2, lkill, lset, fvv, sfv, kind3, cat1, retI, retA, List.length_cons, List.length_nil, true_and, and_true, or_true, true_or, qX9_law, show bi false = 0 from rfl, not_true_eq_false, not_false_eq_true, false_implies, true_and, and_true, tti]
      exact bad2 (by rw [e3]; rfl)
    | true =>
      refine rX9_law_43 ?_
      simp only [bX9_law_43, run, Nat.reduceAdd, lg, st1, st2, lkill, lset, fvv, sfv, kind3, cat1, retI, retA, List.length_cons, List.length_nil, true_and, and_true, or_true, true_or, qX9_law, show ¬ bi true = 0 by decide, not_true_eq_false, not_false_eq_true, false_implies, true_and, and_true, tti]
      refine sX9_law_48 (e_neigh ?_)
      simp only [cont, Option.toList, List.cons_append, List.nil_append]
      cases e4 : inb a4 131072 with
      | false =>
        refine rX9_law_51 ?_
        simp only [bX9_law_51, run, Nat.reduceAdd, lg, st1, st2, lkill, lset, fvv, sfv, kind3, cat1, retI, retA, List.length_cons, List.length_nil, true_and, and_true, or_true, true_or, qX9_law, show bi false = 0 from rfl, not_true_eq_false, not_false_eq_true, false_implies, true_and, and_true, tti]
        exact bad2 (by rw [e3, e4]; rfl)
      | true =>
        refine rX9_law_51 ?_
        simp only [bX9_law_51, run, Nat.reduceAdd, lg, st1, st2, lkill, lset, fvv, sfv, kind3, cat1, retI, retA, List.length_cons, List.length_nil, true_and, and_true, or_true, true_or, qX9_law, show ¬ bi true = 0 by decide, not_true_eq_false, not_false_eq_true, false_implies, true_and, and_true, tti]
        refine sX9_law_59 (by decide) (e_refuseUnless (fun _ => ?_) fun q => absurd q (by decide))
        simp only [cont, Option.toList, List.cons_append, List.nil_append]
        have allok : (okS a1 && okB a2 && (inb a3 131072 && inb a4 131072)) = true := by rw [e12, e3, e4]; rfl
        refine rX9_law_62 ?_
        simp only [bX9_law_62, run, Nat.reduceAdd, lg, st1, st2, lkill, lset, fvv, sfv, kind3, cat1, retI, retA, List.length_cons, List.length_nil, true_and, and_true, or_true, true_or, qX9_law]
        refine sX9_law_64 hb.lgs.1 (e_lawsOf hb hl fun y a e ys hy1 ky ea ls el lw => ?_)
        simp only [cont, Option.toList, List.cons_append, List.nil_append]
        have bad3 : (l = 0 ∨ (D.2.2.1 l).length = 8) → Ex g mX9_law 87 [vR 4, vI (nI l), vI a1, vI a2, vI a3, vI a4, vR a] [] h (3, 18) Q := fun e => by
          refine rX9_law_87 ?_
          simp only [bX9_law_87, run, Nat.reduceAdd, lg, st1, st2, lkill, lset, fvv, sfv, kind3, cat1, retI, retA, List.length_cons, List.length_nil, true_and, and_true, or_true, true_or, qX9_law]
          exact sX9_law_88 (by decide) (e_requireState (fun q => absurd rfl q) fun _ n hn => hy l hl rfl allok e _ (Kp.bump hn) (bmp n hn))
        by_cases hl0 : l = 0
        · refine rX9_law_67 ?_
          simp only [bX9_law_67, run, Nat.reduceAdd, lg, st1, st2, lkill, lset, fvv, sfv, kind3, cat1, retI, retA, List.length_cons, List.length_nil, true_and, and_true, or_true, true_or, qX9_law, show nI l = 0 ↔ True from ⟨fun _ => trivial, fun _ => by rw [hl0]; rfl⟩, not_true_eq_false, not_false_eq_true, false_implies, true_and, and_true, tti]
          exact bad3 (Or.inl hl0)
        · refine rX9_law_67 ?_
          simp only [bX9_law_67, run, Nat.reduceAdd, lg, st1, st2, lkill, lset, fvv, sfv, kind3, cat1, retI, retA, List.length_cons, List.length_nil, true_and, and_true, or_true, true_or, qX9_law, show nI l = 0 ↔ False from ⟨fun q => hl0 ((nI_eq (b := 0) (by omega) (by omega)).mp q), False.elim⟩, not_true_eq_false, not_false_eq_true, false_implies, true_and, and_true, tti]
          refine sX9_law_75 ls.1 (l_size ls ?_)
          simp only [cont, Option.toList, List.cons_append, List.nil_append]
          rw [el]
          by_cases h88 : (D.2.2.1 l).length = 8
          · refine rX9_law_78 ?_
            simp only [bX9_law_78, run, Nat.reduceAdd, lg, st1, st2, lkill, lset, fvv, sfv, kind3, cat1, retI, retA, List.length_cons, List.length_nil, true_and, and_true, or_true, true_or, qX9_law, show (8 : Int32) ≤ nI (D.2.2.1 l).length ↔ True from ⟨fun _ => trivial, fun _ => by rw [h88]; decide⟩, not_true_eq_false, not_false_eq_true, false_implies, true_and, and_true, tti]
            exact bad3 (Or.inr h88)
          · refine rX9_law_78 ?_
            simp only [bX9_law_78, run, Nat.reduceAdd, lg, st1, st2, lkill, lset, fvv, sfv, kind3, cat1, retI, retA, List.length_cons, List.length_nil, true_and, and_true, or_true, true_or, qX9_law, show (8 : Int32) ≤ nI (D.2.2.1 l).length ↔ False from ⟨nI_ge (b := 8) (by omega) (by omega), False.elim⟩, not_true_eq_false, not_false_eq_true, false_implies, true_and, and_true, tti]
            refine sX9_law_88 (by decide) (e_requireState (fun _ => ?_) fun q => absurd q (by decide))
            simp only [cont, Option.toList, List.cons_append, List.nil_append]
            have o12 := Bool.and_eq_true_iff.mp e12
            obtain ⟨s, hs1, hs2, rfl⟩ := okS_t o12.1
            obtain ⟨b, hb1, rfl⟩ := okB_t o12.2
            obtain ⟨p, hp, rfl⟩ := inb_t (by decide) e3
            obtain ⟨t, ht, rfl⟩ := inb_t (by decide) e4
            have w4 := w.1
            refine rX9_law_91 ?_
            simp only [bX9_law_91, run, Nat.reduceAdd, lg, st1, st2, lkill, lset, fvv, sfv, kind3, cat1, retI, retA, List.length_cons, List.length_nil, true_and, and_true, or_true, true_or, qX9_law]
            refine ⟨by decide, by decide, sX9_law_103 (by omega) (e_lawInit (by rw [zK_nwE, if_pos rfl]) (by omega) fun h1 k1 n1 kp1 i0 i1 i2 i3 => ?_)⟩
            simp only [cont, Option.toList, List.cons_append, List.nil_append]
            rw [zN_nw] at n1
            have kn1 : Kn h h1 := (Kp.nw (S := fun _ => False) (h := h) (kd := (1, 4))).tr2 kp1 fun a ha e => by omega
            have kc : zK h1 (zN h) = (1, 4) := by rw [k1, zK_nwE, if_pos rfl]
            have lwok : lwOk (s, b, p, t) := ⟨hs2, hb1, hp, ht⟩
            have newW : LwR h1 (zN h) (s, b, p, t) := ⟨lwok, kc, i0, i1, i2, i3⟩
            have hbf : FamB h1 f gv op D := hb.kp w kn1 (fun a q => q.elim) fun a q1 q2 => by
              have := hb.big w
              rw [(kn1.2.2 a (by omega) id).2.2.2]
            have ls1 := ls.kh w kn1.kh
            have lw1 : ∀ i, i < (D.2.2.1 l).length → LwR h1 (ys.getD i 0) ((D.2.2.1 l).getD i w0) := fun i hi => (lw i hi).kh w kn1.kh
            have elw : lwA h1 l = a := by
              have hl2 := hb.lgs.2.2.2.2
              rw [(lwA_kh w kn1.kh hl2 hl).1]
              obtain ⟨e2, xs, d1, d2, d3⟩ := hy1
              unfold lwA
              rw [d1.2.2.1]
              rcases d1.2.2.2 with ⟨-, q⟩ | ⟨cap, q, -, -, q2⟩
              · rw [q] at d3; simp at d3; omega
              · rw [q2 l (by omega), d2, ea]
            refine Ex.wf (fun w1 => ?_)
            refine sX9_law_106 (by decide) ls1.1 (l_add (ci := 4) ls1 (by omega) kc (mem_D (P := fun z => zK h1 z = (1, 4)) fun j hj => (lw1 j (by omega)).2.1) (show clt[4]? = some (RX3, TX3, 4) from rfl) cs_lw fun h2 ad => ?_)
            simp only [cont, Option.toList, List.cons_append, List.nil_append]
            obtain ⟨e2, ls2, he2, kp2, n2⟩ := ad
            have er : zR h1 a 1 = e := ls1.2.2.1
            have kp2' : Kp (fun b => b = lwA h1 l ∨ b = zR h1 (lwA h1 l) 1 ∧ zR h1 (lwA h1 l) 1 ≠ 2) h1 h2 := by rw [elw, er]; exact kp2
            have nS : ∀ z, zK h1 z = (1, 4) → ¬ (z = a ∨ z = e ∧ e ≠ 2) := fun z q r => by
              rcases r with r | ⟨r, r2⟩
              · rw [r, ls1.1] at q; simp at q
              · rcases ls1.row with q3 | ⟨cap, q3⟩
                · exact r2 q3
                · rw [r, q3] at q; simp at q
            have fb2 : FamB h2 f gv op (setW D l (D.2.2.1 l ++ [(s, b, p, t)])) := by
              refine hbf.setLaws w1 hl kp2' (by rw [elw]; exact ls2) (by rw [elw, er]; exact he2) (by rw [List.length_append, List.length_append, el]; rfl) (by rw [List.length_append]; simp; omega) fun i hi => ?_
              rw [List.length_append] at hi
              have hi' : i < (D.2.2.1 l).length + 1 := hi
              rw [getD_snocG, getD_snocG, el]
              split
              · exact newW.kp1 w1 kp2 (nS _ kc)
              · have q := lw1 i (by omega)
                exact q.kp1 w1 kp2 (nS _ q.2.1)
            refine Ex.wf (fun w2 => ?_)
            refine rX9_law_109 ?_
            simp only [bX9_law_109, run, Nat.reduceAdd, lg, st1, st2, lkill, lset, fvv, sfv, kind3, cat1, retI, retA, List.length_cons, List.length_nil, true_and, and_true, or_true, true_or, qX9_law]
            refine sX9_law_111 fb2.lgs.1 (e_forgetAll fb2 fun h3 k3 r3 kp3 f3 => ?_)
            simp only [cont, Option.toList, List.cons_append, List.nil_append]
            refine rX9_law_114 ?_
            simp only [bX9_law_114, run, Nat.reduceAdd, lg, st1, st2, lkill, lset, fvv, sfv, kind3, cat1, retI, retA, List.length_cons, List.length_nil, true_and, and_true, or_true, true_or, qX9_law]
            have ls3 := ls2.kh w2 (kp3.mono fun b _ q => fb2.nhk (by unfold dat; omega))
            refine sX9_law_116 ls3.1 (l_size ls3 ?_)
            simp only [cont, Option.toList, List.cons_append, List.nil_append]
            refine rX9_law_119 ?_
            simp only [bX9_law_119, run, Nat.reduceAdd, lg, st1, st2, lkill, lset, fvv, sfv, kind3, cat1, retI, retA, List.length_cons, List.length_nil, true_and, and_true, or_true, true_or, qX9_law]
            rw [List.length_append, el]
            have fc : Fc h h2 := (kn1.fc fun a q => q.elim).tr (kp2.mono fun z hz q => by
              rcases q with q | ⟨q, q2⟩
              · rw [q, ls1.1]; exact Or.inr (Or.inr (Or.inl rfl))
              · rcases ls1.row with q3 | ⟨cap, q3⟩
                · exact absurd q3 q2
                · rw [q, q3]; exact Or.inr (Or.inl rfl))
            exact hq l s b p t hl rfl lwok hs1 rfl rfl rfl rfl (by omega) (by omega) h3 (fc.tr (kp3.fc fun a q => by omega)) f3
  refine rX9_law_8 ?_
  simp only [bX9_law_8, run, Nat.reduceAdd, lg, st1, st2, lkill, lset, fvv, sfv, kind3, cat1, retI, retA, List.length_cons, List.length_nil, true_and, and_true, or_true, true_or, qX9_law]
  refine ⟨fun q => bad1 (by simp [okS, q]), fun q => ⟨fun q2 => bad1 (by simp [okS, q2]), fun q2 => ⟨fun q3 => bad1 (by simp [okB, q3]), fun q3 => ⟨fun q4 => bad1 (by simp [okB, q4]), fun q4 => cont38 ?_⟩⟩⟩⟩
  simp only [okS, okB, q, q2, q3, q4, not_false_eq_true, decide_true, Bool.and_self]
