theorem e_neigh {g : Gp} {x : Int32} {h : AH} {Q : PQ} (hq : Q (.inl (some (vI (bi (inb x 131072))))) h) : Ev g mX9_isNeighbourSet [vI x] h Q := by
  refine nX9_isNeighbourSet ?_
  have no : inb x 131072 = false → Ex g mX9_isNeighbourSet 15 [vI x] [] h (0, 0) Q := fun e => by
    rw [e] at hq
    refine rX9_isNeighbourSet_15 ?_
    simp only [bX9_isNeighbourSet_15, run, Nat.reduceAdd, lg, st1, st2, lkill, lset, fvv, sfv, kind3, cat1, retI, retA, List.length_cons, List.length_nil, true_and, and_true, or_true, true_or, qX9_isNeighbourSet]
    exact hq
  refine rX9_isNeighbourSet_0 ?_
  simp only [bX9_isNeighbourSet_0, run, Nat.reduceAdd, lg, st1, st2, lkill, lset, fvv, sfv, kind3, cat1, retI, retA, List.length_cons, List.length_nil, true_and, and_true, or_true, true_or, qX9_isNeighbourSet]
  refine ⟨fun q => no (by simp [inb, q]), fun q => ⟨fun q2 => no ?_, fun q2 => ?_⟩⟩
  · have : nI 131072 ≤ x := q2
    simp [inb, this]
  · have q3 : ¬ nI 131072 ≤ x := q2
    have : inb x 131072 = true := by simp only [inb, q, q3, not_false_eq_true, decide_true, Bool.true_and]
    rw [this] at hq
    exact hq
theorem getD_dropLast {α : Type} {xs : List α} {i : Nat} {d : α} (h : i < xs.length - 1) : xs.dropLast.getD i d = xs.getD i d := by
  rw [List.getD_eq_getElem?_getD, List.getD_eq_getElem?_getD, List.getElem?_dropLast, if_pos h]
theorem e_unlaw {g : Gp} {x : Int32} {h : AH} {Q : PQ} {f : Nat → Nat} {gv : Nat → List Nat} {op : Nat} {D : HD} (hf : FamR h f gv op D)
    (hq : ∀ l, l < D.1 → x = nI l → 0 < (D.2.2.1 l).length → ∀ h', Fc h h' → FamR h' f gv op (setW D l (D.2.2.1 l).dropLast) → Q (.inl (some (vI (nI ((D.2.2.1 l).length - 1))))) h')
    (hx : inb x D.1 = false → ∀ n, zN h ≤ n → Q (.inr 1) (bump h n))
    (hy : ∀ l, l < D.1 → x = nI l → (D.2.2.1 l).length = 0 → ∀ n, zN h ≤ n → Q (.inr 3) (bump h n)) : Ev g mX9_unlaw [vR 4, vI x] h Q := by
  have hb := hf.b
  have hD := hb.ok
  have hD1 := hD.2.1
  refine nX9_unlaw ?_
  refine Ex.wf (fun w => ?_)
  refine rX9_unlaw_0 ?_
  simp only [bX9_unlaw_0, run, Nat.reduceAdd, lg, st1, st2, lkill, lset, fvv, sfv, kind3, cat1, retI, retA, List.length_cons, List.length_nil, true_and, and_true, or_true, true_or, qX9_unlaw]
  refine sX9_unlaw_2 hb.lgs.1 (e_isLanguage hb ?_)
  simp only [cont, Option.toList, List.cons_append, List.nil_append]
  refine sX9_unlaw_5 (by decide) (e_requireThere (fun q => ?_) fun q n hn => hx (bi_0.mp q) n hn)
  simp only [cont, Option.toList, List.cons_append, List.nil_append]
  obtain ⟨l, hl, rfl⟩ := inb_t (by omega) (ts_nf fun e => q (bi_0.mpr e))
  have h8 := hD.2.2.2.1 l hl
  refine rX9_unlaw_8 ?_
  simp only [bX9_unlaw_8, run, Nat.reduceAdd, lg, st1, st2, lkill, lset, fvv, sfv, kind3, cat1, retI, retA, List.length_cons, List.length_nil, true_and, and_true, or_true, true_or, qX9_unlaw]
  refine sX9_unlaw_10 hb.lgs.1 (e_lawsOf hb hl fun y a e ys hy1 ky ea ls el lw => ?_)
  simp only [cont, Option.toList, List.cons_append, List.nil_append]
  have elw : lwA h l = a := by
    obtain ⟨e2, xs, d1, d2, d3⟩ := hy1
    unfold lwA
    rw [d1.2.2.1]
    rcases d1.2.2.2 with ⟨-, q⟩ | ⟨cap, q, -, -, q2⟩
    · rw [q] at d3; simp at d3; omega
    · rw [q2 l (by omega), d2, ea]
  refine rX9_unlaw_13 ?_
  simp only [bX9_unlaw_13, run, Nat.reduceAdd, lg, st1, st2, lkill, lset, fvv, sfv, kind3, cat1, retI, retA, List.length_cons, List.length_nil, true_and, and_true, or_true, true_or, qX9_unlaw]
  refine sX9_unlaw_15 ls.1 (l_isEmpty ls ?_)
  simp only [cont, Option.toList, List.cons_append, List.nil_append]
  rw [el]
  by_cases h0 : (D.2.2.1 l).length = 0
  · refine rX9_unlaw_18 ?_
    simp only [bX9_unlaw_18, run, Nat.reduceAdd, lg, st1, st2, lkill, lset, fvv, sfv, kind3, cat1, retI, retA, List.length_cons, List.length_nil, true_and, and_true, or_true, true_or, qX9_unlaw, if_pos h0, show ¬ (1 : Int32) = 0 by decide, not_true_eq_false, not_false_eq_true, false_implies, true_and, and_true, tti]
    refine rX9_unlaw_25 ?_
    simp only [bX9_unlaw_25, run, Nat.reduceAdd, lg, st1, st2, lkill, lset, fvv, sfv, kind3, cat1, retI, retA, List.length_cons, List.length_nil, true_and, and_true, or_true, true_or, qX9_unlaw]
    exact sX9_unlaw_26 (by decide) (e_requireState (fun q => absurd rfl q) fun _ n hn => hy l hl rfl h0 n hn)
  · refine rX9_unlaw_18 ?_
    simp only [bX9_unlaw_18, run, Nat.reduceAdd, lg, st1, st2, lkill, lset, fvv, sfv, kind3, cat1, retI, retA, List.length_cons, List.length_nil, true_and, and_true, or_true, true_or, qX9_unlaw, if_neg h0, not_true_eq_false, not_false_eq_true, false_implies, true_and, and_true, tti]
    refine sX9_unlaw_26 (by decide) (e_requireState (fun _ => ?_) fun q => absurd q (by decide))
    simp only [cont, Option.toList, List.cons_append, List.nil_append]
    refine rX9_unlaw_29 ?_
    simp only [bX9_unlaw_29, run, Nat.reduceAdd, lg, st1, st2, lkill, lset, fvv, sfv, kind3, cat1, retI, retA, List.length_cons, List.length_nil, true_and, and_true, or_true, true_or, qX9_unlaw]
    refine sX9_unlaw_31 ls.1 (l_size ls ?_)
    simp only [cont, Option.toList, List.cons_append, List.nil_append]
    rw [el]
    refine rX9_unlaw_34 ?_
    simp only [bX9_unlaw_34, run, Nat.reduceAdd, lg, st1, st2, lkill, lset, fvv, sfv, kind3, cat1, retI, retA, List.length_cons, List.length_nil, true_and, and_true, or_true, true_or, qX9_unlaw, show (1 : Int32) = nI 1 from rfl, pk_sub (show 1 ≤ (D.2.2.1 l).length by omega)]
    refine sX9_unlaw_36 ls.1 (l_remove ls (by omega) fun h2 xr ls2 kp2 n2 => ?_)
    simp only [cont, Option.toList, List.cons_append, List.nil_append]
    have er : zR h a 1 = e := ls.2.2.1
    have ke : ∃ cap, zK h e = (6, cap) := by
      rcases ls.2.2.2 with ⟨-, q⟩ | ⟨cap, q, -⟩
      · rw [q] at el; simp at el; omega
      · exact ⟨cap, q⟩
    have e2n : e ≠ 2 := fun q => by
      obtain ⟨cap, q2⟩ := ke
      have := w.ge q2 (by decide); omega
    have kp2' : Kp (fun b => b = lwA h l ∨ b = zR h (lwA h l) 1 ∧ zR h (lwA h l) 1 ≠ 2) h h2 := kp2.mono fun b _ q => by
      rw [elw, er]
      exact q.imp id fun q => ⟨q, e2n⟩
    have fb2 : FamB h2 f gv op (setW D l (D.2.2.1 l).dropLast) := by
      refine hb.setLaws w hl kp2' (by rw [elw]; exact ls2) (Or.inl (by rw [elw, er])) (by rw [List.length_dropLast, List.length_dropLast, el]) (by rw [List.length_dropLast]; omega) fun i hi => ?_
      rw [List.length_dropLast] at hi
      rw [getD_dropLast (by omega), getD_dropLast hi]
      have q := lw i (by omega)
      refine q.kp1 w kp2 fun r => ?_
      rcases r with r | r
      · have := q.2.1
        rw [r, ls.1] at this
        simp at this
      · obtain ⟨cap, q2⟩ := ke
        rw [r] at q
        have := q.2.1
        rw [q2] at this
        simp at this
    refine Ex.wf (fun w2 => ?_)
    refine rX9_unlaw_39 ?_
    simp only [bX9_unlaw_39, run, Nat.reduceAdd, lg, st1, st2, lkill, lset, fvv, sfv, kind3, cat1, retI, retA, List.length_cons, List.length_nil, true_and, and_true, or_true, true_or, qX9_unlaw]
    have ls2l : (D.2.2.1 l).dropLast.length = (D.2.2.1 l).length - 1 := List.length_dropLast
    refine sX9_unlaw_41 fb2.lgs.1 (e_forgetAll fb2 fun h3 k3 r3 kp3 f3 => ?_)
    simp only [cont, Option.toList, List.cons_append, List.nil_append]
    refine rX9_unlaw_44 ?_
    simp only [bX9_unlaw_44, run, Nat.reduceAdd, lg, st1, st2, lkill, lset, fvv, sfv, kind3, cat1, retI, retA, List.length_cons, List.length_nil, true_and, and_true, or_true, true_or, qX9_unlaw]
    have ls3 := ls2.kh w2 (kp3.mono fun b _ q => fb2.nhk (by unfold dat; omega))
    refine sX9_unlaw_45 ls3.1 (l_size ls3 ?_)
    simp only [cont, Option.toList, List.cons_append, List.nil_append]
    refine rX9_unlaw_48 ?_
    simp only [bX9_unlaw_48, run, Nat.reduceAdd, lg, st1, st2, lkill, lset, fvv, sfv, kind3, cat1, retI, retA, List.length_cons, List.length_nil, true_and, and_true, or_true, true_or, qX9_unlaw]
    rw [List.length_dropLast, el]
    have fc : Fc h h2 := kp2.mono fun b hb2 q => by
      rcases q with q | q
      · rw [q, ls.1]; exact Or.inr (Or.inr (Or.inl rfl))
      · obtain ⟨cap, q2⟩ := ke
        rw [q, q2]; exact Or.inr (Or.inl rfl)
    exact hq l hl rfl (by omega) h3 (fc.tr (kp3.fc fun a q => by omega)) f3
def okS (x : Int32) : Bool := decide (¬ x < 1) && decide (¬ (65536 : Int32) ≤ x)
def okB (x : Int32) : Bool := decide (¬ x < -1) && decide (¬ (21 : Int32) < x)
theorem okS_t {x : Int32} (h : okS x = true) : ∃ s, 1 ≤ s ∧ s < 65536 ∧ x = nI s := by
  simp only [okS, Bool.and_eq_true, decide_eq_true_eq] at h
  have h0 : ¬ x < 0 := fun q => h.1 (by
    rw [fa_lt] at q ⊢
    have e0 : (0 : Int32).toInt = 0 := by decide
    have e1 : (1 : Int32).toInt = 1 := by decide
    omega)
  obtain ⟨j, hj, e⟩ := nI_of h0
  subst e
  refine ⟨j, Nat.le_of_not_lt fun q => h.1 (nI_lt (b := 1) q (by decide)), Nat.lt_of_not_le fun q => h.2 (nI_le (a := 65536) q hj), rfl⟩
theorem okB_t {x : Int32} (h : okB x = true) : ∃ b, b ≤ 22 ∧ x = bI b := by
  simp only [okB, Bool.and_eq_true, decide_eq_true_eq] at h
  by_cases h0 : x < 0
  · refine ⟨0, by decide, ?_⟩
    rw [bI_0, fa_eq]
    have h1 := h.1
    rw [fa_lt] at h0 h1
    have e0 : (0 : Int32).toInt = 0 := by decide
    have e1 : (-1 : Int32).toInt = -1 := by decide
    omega
  · obtain ⟨j, hj, e⟩ := nI_of h0
    subst e
    refine ⟨j + 1, ?_, (bI_s j).symm⟩
    have := Nat.le_of_not_lt fun q : 21 < j => h.2 (nI_lt (a := 21) q hj)
    omega
