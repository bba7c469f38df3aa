theorem brw_app {ln : List Ln} {x : Ln} {T : Nat → Cell3} {l m t : Nat} {c : Cell3} : ∀ n, n ≤ ln.length → brw (ln ++ [x]) T l m t n c = brw ln T l m t n c
  | 0, _ => rfl
  | n + 1, h => by
    have e : (ln ++ [x]).getD n w0 = ln.getD n w0 := by rw [getD_snocG, if_neg (by omega)]
    unfold brw
    rw [e, brw_app n (by omega)]
theorem tel_addN {D : HD} {x : Ln} {f : Nat → Nat} {gv : Nat → List Nat} {T T' : Nat → Cell3} {l m : Nat} (hm : m ≠ x.1) (hT : T = T') : ∀ t, tel (addN D x) f gv T l m t = tel D f gv T' l m t
  | 0 => by subst hT; rfl
  | t + 1 => by
    subst hT
    unfold tel
    rw [tel_addN hm rfl t]
    have e1 : (addN D x).2.2.2 = D.2.2.2 ++ [x] := rfl
    have e2 : (addN D x).2.2.1 = D.2.2.1 := rfl
    have e3 : (D.2.2.2 ++ [x]).getD D.2.2.2.length w0 = x := by rw [getD_snocG, if_pos rfl]
    rw [e1, e2, List.length_append]
    show lst f (D.2.2.1 l) t (brw (D.2.2.2 ++ [x]) T l m t (D.2.2.2.length + 1) _) = _
    rw [brw, e3, if_neg (fun q => hm q.1.2.1.symm), brw_app _ (Nat.le_refl _)]
theorem tbl_addN {D : HD} {x : Ln} {f : Nat → Nat} {gv : Nat → List Nat} {m : Nat} (hm : m ≠ x.1) : ∀ n, tbl (addN D x) f gv m n = tbl D f gv m n
  | 0 => rfl
  | n + 1 => by
    funext l
    unfold tbl
    split
    · exact tel_addN hm (tbl_addN hm n) 9
    · exact congrFun (tbl_addN hm n) l
theorem cel_addN {D : HD} {x : Ln} {f : Nat → Nat} {gv : Nat → List Nat} {m l : Nat} (hm : m ≠ x.1) : cel (addN D x) f gv m l = cel D f gv m l := congrFun (tbl_addN hm (l + 1)) l
/-- the caches that a heap keeps for the other meanings, also when a loan is added -/
theorem FamR.ntell {h h1 h2 : AH} {n : Ln} {f : Nat → Nat} {gv : Nat → List Nat} {op : Nat} {D : HD} (hf : FamR h f gv op D) (w1 : Wf h1) (hm : n.1 < 12) (fb : FamB h1 f gv op (addN D n))
    (e1 : zI h1 35 = zI h 35 ∧ zI h1 42 = zI h 42 ∧ (zL h1 32 = zL h 32 ∧ zI h1 33 = zI h 33 ∧ zI h1 34 = zI h 34) ∧ (zL h1 39 = zL h 39 ∧ zI h1 40 = zI h 40 ∧ zI h1 41 = zI h 41) ∧ ∀ k, k < 12 → zI h1 (87 + k) = zI h (87 + k)) (y : Fgt n.1 h1 h2) : FamR h2 f gv op (addN D n) := by
  obtain ⟨-, -, ⟨-, -, l1⟩, ⟨-, -, l2⟩, -, -, -, -, kc⟩ := hf
  obtain ⟨q1, q2, ⟨q3, q4, q5⟩, ⟨q6, q7, q8⟩, q9⟩ := e1
  have ce : ∀ k l, k ≠ n.1 → cel (addN D n) f gv k l = cel D f gv k l := fun k l e => cel_addN e
  refine Fgt.r w1 hm fb (fun k hk e => ?_) (fun k hk e => ?_) (fun k hk e i j a1 a2 => ?_) y
  · rw [q1]
    refine (l1 k hk).imp id fun q => ⟨q.1, fun l hl => ?_⟩
    have := q.2 l hl
    rw [ce _ _ e]
    exact ⟨by rw [q3]; exact this.1, by rw [show 32 + 1 = 33 from rfl, q4]; exact this.2.1, by rw [show 32 + 2 = 34 from rfl, q5]; exact this.2.2⟩
  · rw [q2]
    refine (l2 k hk).imp id fun q => ⟨q.1, fun l hl => ?_⟩
    have := q.2 l hl
    exact ⟨by rw [q6]; exact this.1, by rw [show 39 + 1 = 40 from rfl, q7]; exact this.2.1, by rw [show 39 + 2 = 41 from rfl, q8]; exact this.2.2⟩
  · rw [q9 k hk, ce _ _ e, ce _ _ e]
    exact kc k hk i j a1 a2
def okM (x : Int32) : Bool := decide (¬ x < 0) && decide (¬ (8 : Int32) < x)
theorem okM_t {x : Int32} (h : okM x = true) : ∃ s, s ≤ 8 ∧ x = nI s := by
  simp only [okM, Bool.and_eq_true, decide_eq_true_eq] at h
  obtain ⟨j, hj, e⟩ := nI_of h.1
  subst e
  exact ⟨j, Nat.le_of_not_lt fun q => h.2 (nI_lt (a := 8) q hj), rfl⟩
/-- the numbers of a lexicon's rows stay in a heap where only lists are written to -/
theorem FamB.rowsL {h h' : AH} {S : Nat → Prop} {f : Nat → Nat} {gv : Nat → List Nat} {op : Nat} {D : HD} (w : Wf h) (k : Kp S h h') (hS : ∀ a, a < zN h → S a → lsK (zK h a)) (x : FamB h f gv op D) :
    zI h' 35 = zI h 35 ∧ zI h' 42 = zI h 42 ∧ (zL h' 32 = zL h 32 ∧ zI h' 33 = zI h 33 ∧ zI h' 34 = zI h 34) ∧ (zL h' 39 = zL h 39 ∧ zI h' 40 = zI h 40 ∧ zI h' 41 = zI h 41) ∧ ∀ j, j < 12 → zI h' (87 + j) = zI h (87 + j) := by
  have sm : ∀ {a t n}, zK h a = (t, n) → t ≠ 0 → t ≠ 1 → t ≠ 6 → Sm h h' a := fun q1 q2 q3 q4 => k.2.2 _ (w.lt q1 q2) fun q => by
    have := hS _ (w.lt q1 q2) q
    rw [q1] at this
    rcases this with r | r
    · exact q3 (Prod.mk.inj r).1
    · exact q4 r
  obtain ⟨-, -, ⟨-, a4⟩, ⟨-, a6⟩, -, -, -, a10⟩ := x
  obtain ⟨-, -, -, -, -, -, -, b1, b2, b3, b4, -⟩ := a4
  obtain ⟨-, -, -, -, -, -, -, d1, d2, d3, d4, -⟩ := a6
  exact ⟨(sm b4 (by decide) (by decide) (by decide)).1, (sm d4 (by decide) (by decide) (by decide)).1, ⟨(sm b1 (by decide) (by decide) (by decide)).2.1, (sm b2 (by decide) (by decide) (by decide)).1, (sm b3 (by decide) (by decide) (by decide)).1⟩, ⟨(sm d1 (by decide) (by decide) (by decide)).2.1, (sm d2 (by decide) (by decide) (by decide)).1, (sm d3 (by decide) (by decide) (by decide)).1⟩, fun j hj => (sm (a10.2 j hj).2 (by decide) (by decide) (by decide)).1⟩
theorem e_loan {g : Gp} {a0 a1 a2 a3 : Int32} {h : AH} {Q : PQ} {f : Nat → Nat} {gv : Nat → List Nat} {op : Nat} {D : HD} (hf : FamR h f gv op D)
    (hq : ∀ m l k t, m < 12 → l < k → k < D.1 → t ≤ 8 → a0 = nI m → a1 = nI l → a2 = nI k → a3 = nI t → D.2.2.2.length < 12 → ∀ h', Fc h h' → FamR h' f gv op (addN D (m, l, k, t)) → Q (.inl (some (vI (nI D.2.2.2.length)))) h')
    (hx : (inb a1 D.1 && inb a2 D.1) = false → ∀ n, zN h ≤ n → Q (.inr 1) (bump h n))
    (hx2 : (inb a1 D.1 && inb a2 D.1) = true → (inb a0 12 && (decide (a1 < a2) && okM a3)) = false → ∀ h', Kn h h' → FamR h' f gv op D → Q (.inr 2) h')
    (hy : (inb a1 D.1 && inb a2 D.1) = true → (inb a0 12 && (decide (a1 < a2) && okM a3)) = true → D.2.2.2.length = 12 → ∀ h', Kn h h' → FamR h' f gv op D → Q (.inr 3) h') : Ev g mX9_loan [vR 4, vI a0, vI a1, vI a2, vI a3] h Q := by
  have hb := hf.b
  have hD := hb.ok
  have hD1 := hD.2.1
  have hD5 := hD.2.2.2.2.1
  have bmp : ∀ n, zN h ≤ n → FamR (bump h n) f gv op D := fun n _ => hf
  refine nX9_loan ?_
  refine Ex.wf (fun w => ?_)
  have bad1 : (inb a1 D.1 && inb a2 D.1) = false → Ex g mX9_loan 20 [vR 4, vI a0, vI a1, vI a2, vI a3] [] h (0, 0) Q := fun e => by
    refine rX9_loan_20 ?_
    simp only [bX9_loan_20, run, Nat.reduceAdd, lg, st1, st2, lkill, lset, fvv, sfv, kind3, cat1, retI, retA, List.length_cons, List.length_nil, true_and, and_true, or_true, true_or, qX9_loan]
    exact sX9_loan_21 (by decide) (e_requireThere (fun q => absurd rfl q) fun _ n hn => hx e n hn)
  refine rX9_loan_0 ?_
  simp only [bX9_loan_0, run, Nat.reduceAdd, lg, st1, st2, lkill, lset, fvv, sfv, kind3, cat1, retI, retA, List.length_cons, List.length_nil, true_and, and_true, or_true, true_or, qX9_loan]
  refine sX9_loan_2 hb.lgs.1 (e_isLanguage hb ?_)
  simp only [cont, Option.toList, List.cons_append, List.nil_append]
  cases e1 : inb a1 D.1 with
  | false =>
    refine rX9_loan_5 ?_
    simp only [bX9_loan_5, run, Nat.reduceAdd, lg, st1, st2, lkill, lset, fvv, sfv, kind3, cat1, retI, retA, List.length_cons, List.length_nil, true_and, and_true, or_true, true_or, qX9_loan, show bi false = 0 from rfl, not_true_eq_false, not_false_eq_true, false_implies, true_and, and_true, tti]
    exact bad1 (by rw [e1]; rfl)
  | true =>
    refine rX9_loan_5 ?_
    simp only [bX9_loan_5, run, Nat.reduceAdd, lg, st1, st2, lkill, lset, fvv, sfv, kind3, cat1, retI, retA, List.length_cons, List.length_nil, true_and, and_true, or_true, true_or, qX9_loan, show ¬ bi true = 0 by decide, not_true_eq_false, not_false_eq_true, false_implies, true_and, and_true, tti]
    refine sX9_loan_10 hb.lgs.1 (e_isLanguage hb ?_)
    simp only [cont, Option.toList, List.cons_append, List.nil_append]
    cases e2 : inb a2 D.1 with
    | false =>
      refine rX9_loan_13 ?_
      simp only [bX9_loan_13, run, Nat.reduceAdd, lg, st1, st2, lkill, lset, fvv, sfv, kind3, cat1, retI, retA, List.length_cons, List.length_nil, true_and, and_true, or_true, true_or, qX9_loan, show bi false = 0 from rfl, not_true_eq_false, not_false_eq_true, false_implies, true_and, and_true, tti]
      exact bad1 (by rw [e1, e2]; rfl)
    | true =>
      have e12 : (inb a1 D.1 && inb a2 D.1) = true := by rw [e1, e2]; rfl
      refine rX9_loan_13 ?_
      simp only [bX9_loan_13, run, Nat.reduceAdd, lg, st1, st2, lkill, lset, fvv, sfv, kind3, cat1, retI, retA, List.length_cons, List.length_nil, true_and, and_true, or_true, true_or, qX9_loan, show ¬ bi true = 0 by decide, not_true_eq_false, not_false_eq_true, false_implies, true_and, and_true, tti]
      refine sX9_loan_21 (by decide) (e_requireThere (fun _ => ?_) fun q => absurd q (by decide))
      simp only [cont, Option.toList, List.cons_append, List.nil_append]
      have bad2 : (inb a0 12 && (decide (a1 < a2) && okM a3)) = false → Ex g mX9_loan 52 [vR 4, vI a0, vI a1, vI a2, vI a3] [] h (1, 6) Q := fun e => by
        refine rX9_loan_52 ?_
        simp only [bX9_loan_52, run, Nat.reduceAdd, lg, st1, st2, lkill, lset, fvv, sfv, kind3, cat1, retI, retA, List.length_cons, List.length_nil, true_and, and_true, or_true, true_or, qX9_loan]
        exact sX9_loan_53 (by decide) (e_refuseUnless (fun q => absurd rfl q) fun _ n hn => hx2 e12 e _ (Kp.bump hn) (bmp n hn))
      refine rX9_loan_24 ?_
      simp only [bX9_loan_24, run, Nat.reduceAdd, lg, st1, st2, lkill, lset, fvv, sfv, kind3, cat1, retI, retA, List.length_cons, List.length_nil, true_and, and_true, or_true, true_or, qX9_loan]
      refine sX9_loan_25 (e_isMeaning ?_)
      simp only [cont, Option.toList, List.cons_append, List.nil_append]
      cases e3 : inb a0 12 with
      | false =>
        refine rX9_loan_28 ?_
        simp only [bX9_loan_28, run, Nat.reduceAdd, lg, st1, st2, lkill, lset, fvv, sfv, kind3, cat1, retI, retA, List.length_cons, List.length_nil, true_and, and_true, or_true, true_or, qX9_loan, show bi false = 0 from rfl, not_true_eq_false, not_false_eq_true, false_implies, true_and, and_true, tti]
        exact bad2 (by rw [e3]; rfl)
      | true =>
        have good : (decide (a1 < a2) && okM a3) = true → Ex g mX9_loan 53 [vR 4, vI a0, vI a1, vI a2, vI a3] [vI 1] h (1, 6) Q := fun e4 => by
          refine sX9_loan_53 (by decide) (e_refuseUnless (fun _ => ?_) fun q => absurd q (by decide))
          simp only [cont, Option.toList, List.cons_append, List.nil_append]
          have allok : (inb a0 12 && (decide (a1 < a2) && okM a3)) = true := by rw [e3, e4]; rfl
          obtain ⟨c1, c2, c3, c4, e, zs, c5, c6, c7⟩ := hb.lns
          refine rX9_loan_56 ?_
          simp only [bX9_loan_56, run, Nat.reduceAdd, lg, st1, st2, lkill, lset, fvv, sfv, kind3, cat1, retI, retA, List.length_cons, List.length_nil, true_and, and_true, or_true, true_or, qX9_loan, c1, c2, c3, c4, not_true_eq_false, not_false_eq_true, false_implies, true_and, and_true, tti]
          refine sX9_loan_63 c5.1 (l_size c5 ?_)
          simp only [cont, Option.toList, List.cons_append, List.nil_append]
          rw [c6]
          by_cases h12 : D.2.2.2.length = 12
          · refine rX9_loan_66 ?_
            simp only [bX9_loan_66, run, Nat.reduceAdd, lg, st1, st2, lkill, lset, fvv, sfv, kind3, cat1, retI, retA, List.length_cons, List.length_nil, true_and, and_true, or_true, true_or, qX9_loan, show (12 : Int32) ≤ nI D.2.2.2.length ↔ True from ⟨fun _ => trivial, fun _ => by rw [h12]; decide⟩, not_true_eq_false, not_false_eq_true, false_implies, true_and, and_true, tti]
            refine rX9_loan_75 ?_
            simp only [bX9_loan_75, run, Nat.reduceAdd, lg, st1, st2, lkill, lset, fvv, sfv, kind3, cat1, retI, retA, List.length_cons, List.length_nil, true_and, and_true, or_true, true_or, qX9_loan]
            exact sX9_loan_76 (by decide) (e_requireState (fun q => absurd rfl q) fun _ n hn => hy e12 allok h12 _ (Kp.bump hn) (bmp n hn))
          · refine rX9_loan_66 ?_
            simp only [bX9_loan_66, run, Nat.reduceAdd, lg, st1, st2, lkill, lset, fvv, sfv, kind3, cat1, retI, retA, List.length_cons, List.length_nil, true_and, and_true, or_true, true_or, qX9_loan, show (12 : Int32) ≤ nI D.2.2.2.length ↔ False from ⟨nI_ge (b := 12) (by omega) (by omega), False.elim⟩, not_true_eq_false, not_false_eq_true, false_implies, true_and, and_true, tti]
            refine sX9_loan_76 (by decide) (e_requireState (fun _ => ?_) fun q => absurd q (by decide))
            simp only [cont, Option.toList, List.cons_append, List.nil_append]
            have o4 := Bool.and_eq_true_iff.mp e4
            obtain ⟨l, hl, rfl⟩ := inb_t (by omega) e1
            obtain ⟨k, hk, rfl⟩ := inb_t (by omega) e2
            obtain ⟨m, hm, rfl⟩ := inb_t (by decide) e3
            obtain ⟨t, ht, rfl⟩ := okM_t o4.2
            have hlk : l < k := (nI_ltI (by omega) (by omega)).mp (of_decide_eq_true o4.1)
            have w4 := w.1
            refine rX9_loan_79 ?_
            simp only [bX9_loan_79, run, Nat.reduceAdd, lg, st1, st2, lkill, lset, fvv, sfv, kind3, cat1, retI, retA, List.length_cons, List.length_nil, true_and, and_true, or_true, true_or, qX9_loan, c1, c2, c3, c4, not_true_eq_false, not_false_eq_true, false_implies, true_and, and_true, tti]
            refine ⟨by decide, by decide, sX9_loan_95 (by omega) (e_loanInit (by rw [zK_nwE, if_pos rfl]) (by omega) fun h1 k1 n1 kp1 i0 i1 i2 i3 => ?_)⟩
            simp only [cont, Option.toList, List.cons_append, List.nil_append]
            rw [zN_nw] at n1
            have kn1 : Kn h h1 := (Kp.nw (S := fun _ => False) (h := h) (kd := (1, 6))).tr2 kp1 fun a ha e => by omega
            have kc : zK h1 (zN h) = (1, 6) := by rw [k1, zK_nwE, if_pos rfl]
            have newN : LnR h1 (zN h) (m, l, k, t) := ⟨kc, i0, i1, i2, i3⟩
            have hbf : FamB h1 f gv op D := hb.kp w kn1 (fun a q => q.elim) fun a q1 q2 => by
              have := hb.big w
              rw [(kn1.2.2 a (by omega) id).2.2.2]
            have ls1 := c5.kh w kn1.kh
            have ln1 : ∀ i, i < D.2.2.2.length → LnR h1 (zs.getD i 0) (D.2.2.2.getD i w0) := fun i hi => (c7 i hi).kh w kn1.kh
            refine Ex.wf (fun w1 => ?_)
            refine sX9_loan_98 (by decide) ls1.1 (l_add (ci := 6) ls1 (by omega) kc (mem_D (P := fun z => zK h1 z = (1, 6)) fun j hj => (ln1 j (by omega)).1) (show clt[6]? = some (RX5, TX5, 4) from rfl) cs_ln fun h2 ad => ?_)
            simp only [cont, Option.toList, List.cons_append, List.nil_append]
            obtain ⟨e2', ls2, he2, kp2, n2⟩ := ad
            have er : zR h1 30 1 = e := ls1.2.2.1
            have kp2' : Kp (fun b => b = 30 ∨ b = zR h1 30 1 ∧ zR h1 30 1 ≠ 2) h1 h2 := by rw [er]; exact kp2
            have hS : ∀ a, a < zN h1 → (a = 30 ∨ a = e ∧ e ≠ 2) → lsK (zK h1 a) := fun a _ q => by
              rcases q with q | ⟨q, q2⟩
              · rw [q]; exact Or.inl ls1.1
              · rcases ls1.row with q3 | ⟨cap, q3⟩
                · exact absurd q3 q2
                · rw [q, q3]; exact Or.inr rfl
            have dok := addN_ok (n := (m, l, k, t)) hD (by omega) ⟨hm, hlk, hk, ht⟩
            have fb2 : FamB h2 f gv op (addN D (m, l, k, t)) := by
              refine hbf.setLoans w1 dok rfl rfl rfl kp2' ?_ ls2.2.2.1 (by rw [er]; exact he2)
              refine ⟨e2', _, ls2, ?_, fun i hi => ?_⟩
              · show (zs ++ [zN h]).length = (D.2.2.2 ++ [(m, l, k, t)]).length
                rw [List.length_append, List.length_append, c6]; rfl
              · have hi' : i < (D.2.2.2 ++ [(m, l, k, t)]).length := hi
                rw [List.length_append] at hi'
                have hi2 : i < D.2.2.2.length + 1 := hi'
                show LnR h2 ((zs ++ [zN h]).getD i 0) ((D.2.2.2 ++ [(m, l, k, t)]).getD i w0)
                rw [getD_snocG, getD_snocG, c6]
                split
                · exact newN.keep w1 kp2 hS
                · exact (ln1 i (by omega)).keep w1 kp2 hS
            have rw1 := hbf.rowsL w1 kp2 hS
            have rw0 := hb.rowsL w kn1 (fun a _ q => q.elim)
            refine Ex.wf (fun w2 => ?_)
            refine rX9_loan_101 ?_
            simp only [bX9_loan_101, run, Nat.reduceAdd, lg, st1, st2, lkill, lset, fvv, sfv, kind3, cat1, retI, retA, List.length_cons, List.length_nil, true_and, and_true, or_true, true_or, qX9_loan]
            refine sX9_loan_104 fb2.lgs.1 (e_forgetMeaning fb2 hm fun h3 fg => ?_)
            simp only [cont, Option.toList, List.cons_append, List.nil_append]
            have fr := hf.ntell (n := (m, l, k, t)) w2 hm fb2 ⟨rw1.1.trans rw0.1, rw1.2.1.trans rw0.2.1, ⟨rw1.2.2.1.1.trans rw0.2.2.1.1, rw1.2.2.1.2.1.trans rw0.2.2.1.2.1, rw1.2.2.1.2.2.trans rw0.2.2.1.2.2⟩, ⟨rw1.2.2.2.1.1.trans rw0.2.2.2.1.1, rw1.2.2.2.1.2.1.trans rw0.2.2.2.1.2.1, rw1.2.2.2.1.2.2.trans rw0.2.2.2.1.2.2⟩, fun j hj => (rw1.2.2.2.2 j hj).trans (rw0.2.2.2.2 j hj)⟩ fg
            obtain ⟨g1, g2, g3, g4, e9, ys, g5, g6, -⟩ := fr.b.lns
            refine rX9_loan_107 ?_
            simp only [bX9_loan_107, run, Nat.reduceAdd, lg, st1, st2, lkill, lset, fvv, sfv, kind3, cat1, retI, retA, List.length_cons, List.length_nil, true_and, and_true, or_true, true_or, qX9_loan, g1, g2, g3, g4, not_true_eq_false, not_false_eq_true, false_implies, true_and, and_true, tti]
            refine sX9_loan_114 g5.1 (l_size g5 ?_)
            simp only [cont, Option.toList, List.cons_append, List.nil_append]
            have g6' : ys.length = D.2.2.2.length + 1 := by
              rw [g6]
              show (D.2.2.2 ++ [(m, l, k, t)]).length = _
              rw [List.length_append]; rfl
            refine rX9_loan_117 ?_
            simp only [bX9_loan_117, run, Nat.reduceAdd, lg, st1, st2, lkill, lset, fvv, sfv, kind3, cat1, retI, retA, List.length_cons, List.length_nil, true_and, and_true, or_true, true_or, qX9_loan, g6', nI_pred]
            have fc : Fc h h2 := (kn1.fc fun a q => q.elim).tr (kp2.mono fun z hz q => by
              rcases hS z hz q with r | r
              · exact Or.inr (Or.inr (Or.inl r))
              · exact Or.inr (Or.inl r))
            exact hq m l k t hm hlk hk ht rfl rfl rfl rfl (by omega) h3 (fc.tr (fg.2.2.1.fc fun a q => by omega)) fr
        refine rX9_loan_28 ?_
        simp only [bX9_loan_28, run, Nat.reduceAdd, lg, st1, st2, lkill, lset, fvv, sfv, kind3, cat1, retI, retA, List.length_cons, List.length_nil, true_and, and_true, or_true, true_or, qX9_loan, show ¬ bi true = 0 by decide, not_true_eq_false, not_false_eq_true, false_implies, true_and, and_true, tti]
        refine ⟨fun q => bad2 ?_, fun q => ⟨fun q2 => bad2 (by simp [okM, q2]), fun q2 => ⟨fun q3 => bad2 (by simp [okM, q3]), fun q3 => good ?_⟩⟩⟩
        · have : ¬ a1 < a2 := fun r => (fa_of_lt r).2.1 q
          simp [this]
        · have : a1 < a2 := fa_of_nle q
          simp only [okM, this, q2, q3, not_false_eq_true, decide_true, Bool.and_self]
