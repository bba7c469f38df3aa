/-- one more language -/
def addL (D : HD) (p : Nat) : HD := (D.1 + 1, fun k => if k = D.1 then p else D.2.1 k, fun k => if k = D.1 then [] else D.2.2.1 k, D.2.2.2)
theorem addL_ok {D : HD} {p : Nat} (h : hdOk D) (hp : p < D.1) (hn : D.1 < 10) : hdOk (addL D p) := by
  obtain ⟨h1, h2, h3, h4, h5, h6⟩ := h
  refine ⟨Nat.le_succ_of_le h1, hn, fun l q1 q2 => ?_, fun l q => ?_, h5, fun i hi => ?_⟩
  · have q2' : l < D.1 + 1 := q2
    show (if l = D.1 then p else D.2.1 l) < l
    split
    · omega
    · exact h3 l q1 (by omega)
  · have q' : l < D.1 + 1 := q
    show (if l = D.1 then [] else D.2.2.1 l).length ≤ 8
    split
    · simp
    · exact h4 l (by omega)
  · obtain ⟨a1, a2, a3, a4⟩ := h6 i hi
    exact ⟨a1, a2, Nat.lt_succ_of_lt a3, a4⟩
theorem FamB.big {h : AH} {f : Nat → Nat} {gv : Nat → List Nat} {op : Nat} {D : HD} (w : Wf h) (x : FamB h f gv op D) : 99 ≤ zN h := w.lt (x.2.2.2.2.2.2.2.2 11 (by decide)).2 (by decide)
theorem LsR.row {h : AH} {a e : Nat} {xs : List Nat} (hl : LsR h a e xs) : e = 2 ∨ ∃ cap, zK h e = (6, cap) := hl.2.2.2.imp (fun q => q.1) fun ⟨c, q, _⟩ => ⟨c, q⟩
/-- the list of a language of the family -/
theorem FamB.lw {h : AH} {f : Nat → Nat} {gv : Nat → List Nat} {op : Nat} {D : HD} (x : FamB h f gv op D) {l : Nat} (hl : l < D.1) : zK h (lwA h l) = (1, 0) ∧ (zR h (lwA h l) 1 = 2 ∨ ∃ cap, zK h (zR h (lwA h l) 1) = (6, cap)) := by
  obtain ⟨-, -, -, -, e, xs, c, len, lg⟩ := x.lgs
  obtain ⟨d1, -, e2, ys, d3, -⟩ := lg l hl
  have hx : zR h (zR h 25 1) l = xs.getD l 0 := by
    rw [c.2.2.1]
    rcases c.2.2.2 with ⟨-, q⟩ | ⟨cap, q, -, -, q2⟩
    · rw [q] at len; simp at len; omega
    · exact q2 l (by omega)
  unfold lwA
  rw [hx]
  refine ⟨d3.1, ?_⟩
  rw [d3.2.2.1]
  exact d3.row
theorem FamB.isLk {h : AH} {f : Nat → Nat} {gv : Nat → List Nat} {op : Nat} {D : HD} (x : FamB h f gv op D) {a : Nat} (ia : isL h D.1 a) : zK h a = (1, 0) ∧ (zR h a 1 = 2 ∨ ∃ cap, zK h (zR h a 1) = (6, cap)) := by
  rcases ia with ia | ia | ⟨l, il, ia⟩
  · obtain ⟨-, -, -, -, e9, zs, d, -⟩ := x.lgs
    rw [ia, d.2.2.1]; exact ⟨d.1, d.row⟩
  · obtain ⟨-, -, -, -, e9, zs, d, -⟩ := x.lns
    rw [ia, d.2.2.1]; exact ⟨d.1, d.row⟩
  · rw [ia]; exact x.lw il
theorem FamB.l38 {h : AH} {f : Nat → Nat} {gv : Nat → List Nat} {op : Nat} {D : HD} (x : FamB h f gv op D) : LnsR h 38 [] := by
  obtain ⟨⟨⟨c1, c2, c3, c4, c5, c6, c7, c8, c9, c10, c11, c12, c13, c14, -⟩, -⟩, -, -, ⟨⟨-, -, q⟩, -⟩, -⟩ := x
  rw [c14] at q
  exact q
theorem getD_snoc {xs : List Nat} {c l : Nat} : (xs ++ [c]).getD l 0 = if l = xs.length then c else xs.getD l 0 := by
  by_cases h : l = xs.length
  · rw [if_pos h, h, List.getD_eq_getElem?_getD, List.getElem?_append_right (Nat.le_refl _), Nat.sub_self]; rfl
  · rw [if_neg h]
    by_cases h2 : l < xs.length
    · rw [List.getD_eq_getElem?_getD, List.getElem?_append_left h2, ← List.getD_eq_getElem?_getD]
    · rw [List.getD_eq_getElem?_getD, List.getD_eq_getElem?_getD, List.getElem?_eq_none (by simp; omega), List.getElem?_eq_none (by omega)]
theorem e_language {g : Gp} {x : Int32} {h : AH} {Q : PQ} {f : Nat → Nat} {gv : Nat → List Nat} {op : Nat} {D : HD} (hf : FamR h f gv op D)
    (hq : ∀ p, p < D.1 → x = nI p → D.1 < 10 → ∀ h', Fc h h' → FamR h' f gv op (addL D p) → Q (.inl (some (vI (nI D.1)))) h')
    (hx : inb x D.1 = false → ∀ n, zN h ≤ n → Q (.inr 1) (bump h n))
    (hy : inb x D.1 = true → D.1 = 10 → ∀ n, zN h ≤ n → Q (.inr 3) (bump h n)) : Ev g mX9_language [vR 4, vI x] h Q := by
  have hb := hf.b
  have hD := hb.ok
  have hD1 := hD.2.1
  obtain ⟨c1, c2, c3, c4, e, xs, c5, c6, c7⟩ := hb.lgs
  refine nX9_language ?_
  refine Ex.wf (fun w => ?_)
  have big := hb.big w
  refine rX9_language_0 ?_
  simp only [bX9_language_0, run, Nat.reduceAdd, lg, st1, st2, lkill, lset, fvv, sfv, kind3, cat1, retI, retA, List.length_cons, List.length_nil, true_and, and_true, or_true, true_or, qX9_language]
  refine sX9_language_2 c1 (e_isLanguage hb ?_)
  simp only [cont, Option.toList, List.cons_append, List.nil_append]
  refine sX9_language_5 (by decide) (e_requireThere (fun q => ?_) fun q n hn => hx (bi_0.mp q) n hn)
  simp only [cont, Option.toList, List.cons_append, List.nil_append]
  have hin := ts_nf fun e => q (bi_0.mpr e)
  obtain ⟨p, hp, rfl⟩ := inb_t (by omega) hin
  refine rX9_language_8 ?_
  simp only [bX9_language_8, run, Nat.reduceAdd, lg, st1, st2, lkill, lset, fvv, sfv, kind3, cat1, retI, retA, List.length_cons, List.length_nil, true_and, and_true, or_true, true_or, qX9_language, c1, c2, c3, c4, not_true_eq_false, not_false_eq_true, false_implies, true_and, and_true, tti]
  refine sX9_language_15 c5.1 (l_size c5 ?_)
  simp only [cont, Option.toList, List.cons_append, List.nil_append]
  by_cases h10 : D.1 = 10
  · refine rX9_language_18 ?_
    simp only [bX9_language_18, run, Nat.reduceAdd, lg, st1, st2, lkill, lset, fvv, sfv, kind3, cat1, retI, retA, List.length_cons, List.length_nil, true_and, and_true, or_true, true_or, qX9_language, show (10 : Int32) ≤ nI xs.length ↔ True from ⟨fun _ => trivial, fun _ => by rw [c6, h10]; decide⟩, not_true_eq_false, not_false_eq_true, false_implies, true_and, and_true, tti]
    refine rX9_language_27 ?_
    simp only [bX9_language_27, run, Nat.reduceAdd, lg, st1, st2, lkill, lset, fvv, sfv, kind3, cat1, retI, retA, List.length_cons, List.length_nil, true_and, and_true, or_true, true_or, qX9_language]
    exact sX9_language_28 (by decide) (e_requireState (fun q => absurd rfl q) fun _ n hn => hy hin h10 n hn)
  · refine rX9_language_18 ?_
    simp only [bX9_language_18, run, Nat.reduceAdd, lg, st1, st2, lkill, lset, fvv, sfv, kind3, cat1, retI, retA, List.length_cons, List.length_nil, true_and, and_true, or_true, true_or, qX9_language, show (10 : Int32) ≤ nI xs.length ↔ False from ⟨nI_ge (b := 10) (by omega) (by omega), False.elim⟩, not_true_eq_false, not_false_eq_true, false_implies, true_and, and_true, tti]
    refine sX9_language_28 (by decide) (e_requireState (fun _ => ?_) fun q => absurd q (by decide))
    simp only [cont, Option.toList, List.cons_append, List.nil_append]
    refine rX9_language_31 ?_
    simp only [bX9_language_31, run, Nat.reduceAdd, lg, st1, st2, lkill, lset, fvv, sfv, kind3, cat1, retI, retA, List.length_cons, List.length_nil, true_and, and_true, or_true, true_or, qX9_language, c1, c2, c3, c4, not_true_eq_false, not_false_eq_true, false_implies, true_and, and_true, tti]
    refine ⟨by decide, by decide, sX9_language_43 (by decide) (by omega) (e_langInit (by rw [zK_nwE, if_pos rfl]) fun h1 n1 kp1 i1 r1 ls1 => ?_)⟩
    simp only [cont, Option.toList, List.cons_append, List.nil_append]
    rw [zN_nw] at n1 r1 ls1
    have k1 : Kn h h1 := (Kp.nw (S := fun _ => False) (h := h) (kd := (1, 3))).tr2 kp1 fun a ha e => by omega
    have kc : zK h1 (zN h) = (1, 3) := by rw [kp1.2.1 _ (by rw [zN_nw]; omega), zK_nwE, if_pos rfl]
    have hb1 : FamB h1 f gv op D := hb.kp w k1 (fun a q => q.elim) fun a q1 q2 => by
      have := hb.big w
      rw [(k1.2.2 a (by omega) id).2.2.2]
    have c51 := c5.kh w k1.kh
    have c71 : ∀ l, l < D.1 → LgR h1 (xs.getD l 0) (pc D.2.1 l) (D.2.2.1 l) := fun l hl => (c7 l hl).kh w k1.kh
    refine Ex.wf (fun w1 => ?_)
    refine sX9_language_46 (by decide) c51.1 (l_add (ci := 3) c51 (by omega) kc (mem_D (P := fun z => zK h1 z = (1, 3)) fun j hj => (c71 j (by omega)).1) (show clt[3]? = some (RX2, TX2, 2) from rfl) cs_lg fun h2 ad => ?_)
    simp only [cont, Option.toList, List.cons_append, List.nil_append]
    refine Ex.wf (fun w2 => ?_)
    obtain ⟨e2, ls2, he2, kp2, n2⟩ := ad
    have ke : e = 2 ∨ ∃ cap, zK h1 e = (6, cap) := c51.row
    have hS : ∀ a, a < zN h1 → (a = 25 ∨ a = e ∧ e ≠ 2) → lsK (zK h1 a) := fun a _ q => by
      rcases q with q | ⟨q, q2⟩
      · rw [q]; exact Or.inl c51.1
      · rcases ke with q3 | ⟨cap, q3⟩
        · exact absurd q3 q2
        · rw [q, q3]; exact Or.inr rfl
    have old : ∀ a, zK h1 a = (1, 0) → a ≠ 25 → ¬ (a = 25 ∨ a = e ∧ e ≠ 2) := fun a q q2 r => by
      rcases r with r | ⟨r, r2⟩
      · exact q2 r
      · rcases ke with q3 | ⟨cap, q3⟩
        · exact r2 q3
        · rw [r, q3] at q; simp at q
    have sep := hb1.1.2.2.2.2
    have e25 : zR h1 25 1 = e := c51.2.2.1
    -- rows of the other lists
    have rows : ∀ a, isL h1 D.1 a → a ≠ 25 → zR h1 a 1 = 2 ∨ ¬ (zR h1 a 1 = 25 ∨ zR h1 a 1 = e ∧ e ≠ 2) := fun a ia na => by
      by_cases q : zR h1 a 1 = 2
      · exact Or.inl q
      · refine Or.inr fun r => ?_
        rcases r with r | ⟨r, r2⟩
        · have : zR h1 a 1 = 2 ∨ ∃ cap, zK h1 (zR h1 a 1) = (6, cap) := by
            rcases ia with ia | ia | ⟨l, il, ia⟩
            · exact absurd ia na
            · obtain ⟨-, -, -, -, e9, zs, d, -⟩ := hb1.lns
              rw [ia, d.2.2.1]; exact d.row
            · rw [ia]; exact (hb1.lw il).2
          rcases this with q3 | ⟨cap, q3⟩
          · exact q q3
          · rw [r, c51.1] at q3; simp at q3
        · exact na (sep.2.2 a 25 ia (Or.inl rfl) (by rw [r, e25]) q)
    have lwa : ∀ l, l < D.1 → lwA h1 l = zR h1 (xs.getD l 0) 1 := fun l hl => by
      unfold lwA
      rw [e25]
      rcases c51.2.2.2 with ⟨-, q⟩ | ⟨cap, q, -, -, q2⟩
      · rw [q] at c6; simp at c6; omega
      · rw [q2 l (by omega)]
    have oldL : ∀ l, l < D.1 → LgR h2 (xs.getD l 0) (pc D.2.1 l) (D.2.2.1 l) := fun l hl => by
      refine (c71 l hl).keep w1 kp2 hS ?_ ?_
      · rw [← lwa l hl]; exact old _ (hb1.lw hl).1 (sep.2.1 l hl).1
      · rw [← lwa l hl]; exact rows _ (Or.inr (Or.inr ⟨l, hl, rfl⟩)) (sep.2.1 l hl).1
    have nw2 : ∀ a, zN h ≤ a → a < zN h1 → zK h1 a = (1, 0) ∨ zK h1 a = (1, 3) → ¬ (a = 25 ∨ a = e ∧ e ≠ 2) := fun a q1 _ q r => by
      rcases r with r | ⟨r, r2⟩
      · omega
      · rcases ke with q3 | ⟨cap, q3⟩
        · exact r2 q3
        · rw [r, q3] at q; simp at q
    have newL : LgR h2 (zN h) (p + 1) [] := by
      have s := kp2.2.2 (zN h) (by omega) (nw2 _ (Nat.le_refl _) (by omega) (Or.inr kc))
      refine ⟨kp2.kd w1 kc (by decide), by rw [s.1, i1, bI_s], 2, [], ?_, rfl, fun i hi => absurd hi (by simp)⟩
      rw [s.2.2.2, r1]
      exact ls1.keep w1 kp2 (nw2 _ (by omega) (by omega) (Or.inl ls1.1)) (Or.inl rfl)
    have row2 : ∀ l, l < xs.length + 1 → zR h2 e2 l = (xs ++ [zN h]).getD l 0 := fun l hl => by
      rcases ls2.2.2.2 with ⟨-, q⟩ | ⟨cap, q, -, -, q2⟩
      · simp at q
      · exact q2 l (by simp; omega)
    have e252 : zR h2 25 1 = e2 := ls2.2.2.1
    have y1 : LgsR h2 25 (addL D p).1 (addL D p).2.1 (addL D p).2.2.1 := by
      refine ⟨e2, _, ls2, by rw [List.length_append, c6]; rfl, fun l hl => ?_⟩
      have hl' : l < D.1 + 1 := hl
      rw [getD_snoc, c6]
      by_cases e1 : l = D.1
      · rw [if_pos e1]
        have p1 : pc (addL D p).2.1 l = p + 1 := by
          unfold pc
          rw [if_neg (by omega)]
          show (if l = D.1 then p else D.2.1 l) + 1 = p + 1
          rw [if_pos e1]
        have p2 : (addL D p).2.2.1 l = [] := if_pos e1
        rw [p1, p2]
        exact newL
      · rw [if_neg e1]
        have p1 : pc (addL D p).2.1 l = pc D.2.1 l := by
          unfold pc
          split
          · rfl
          · show (if l = D.1 then p else D.2.1 l) + 1 = D.2.1 l + 1
            rw [if_neg e1]
        have p2 : (addL D p).2.2.1 l = D.2.2.1 l := if_neg e1
        rw [p1, p2]
        exact oldL l (by omega)
    have y2 : LnsR h2 30 (addL D p).2.2.2 := by
      obtain ⟨-, -, -, -, e9, zs, d1, d2, d3⟩ := hb1.lns
      have r30 := rows 30 (Or.inr (Or.inl rfl)) (by decide)
      rw [d1.2.2.1] at r30
      exact ⟨e9, zs, d1.keep w1 kp2 (old 30 d1.1 (by decide)) r30, d2, fun i hi => (d3 i hi).keep w1 kp2 hS⟩
    have y3 : LnsR h2 38 [] := by
      obtain ⟨e9, zs, d1, d2, d3⟩ := hb1.l38
      have ez : zs = [] := List.length_eq_zero_iff.mp d2
      subst ez
      have n38 := kp2.2.2 38 (w1.lt d1.1 (by decide)) (old 38 d1.1 (by decide))
      refine ⟨e9, [], ⟨kp2.kd w1 d1.1 (by decide), by rw [n38.1]; exact d1.2.1, by rw [n38.2.2.2]; exact d1.2.2.1, ?_⟩, rfl, fun i hi => absurd hi (by simp)⟩
      rcases d1.2.2.2 with q | ⟨cap, q1, q2, q3, q4⟩
      · exact Or.inl q
      · exact Or.inr ⟨cap, kp2.kd w1 q1 (by decide), q2, q3, fun i hi => absurd hi (by simp)⟩
    have ll1 : ∀ l, l < D.1 → lwA h2 l = lwA h1 l := fun l hl => by
      rw [lwa l hl]
      unfold lwA
      have kl := (c71 l hl).1
      have nl : ¬ (xs.getD l 0 = 25 ∨ xs.getD l 0 = e ∧ e ≠ 2) := fun q => by
        have := hS _ (w1.lt kl (by decide)) q
        rw [kl] at this
        rcases this with r | r <;> simp at r
      rw [e252, row2 l (by omega), getD_snoc, if_neg (by omega), (kp2.2.2 _ (w1.lt kl (by decide)) nl).2.2.2]
    have y5 : Sep h2 (addL D p).1 := by
      refine Sep.mk (n := D.1) (a0 := 25) (w := zN h + 1) sep (fun l hl => ?_) (fun a ia na => ?_) ?_
      · have hl' : l < D.1 + 1 := hl
        by_cases e1 : l = D.1
        · refine Or.inr ⟨e1, ?_, ?_, by omega, by omega, by omega, fun k hk q => ?_⟩
          · have s := kp2.2.2 (zN h) (by omega) (nw2 _ (Nat.le_refl _) (by omega) (Or.inr kc))
            unfold lwA
            rw [e252, row2 l (by omega), getD_snoc, if_pos (by omega), s.2.2.2, r1]
          · exact (ls1.keep w1 kp2 (nw2 _ (by omega) (by omega) (Or.inl ls1.1)) (Or.inl rfl)).2.2.1
          · rw [(lwA_kh w k1.kh ⟨e, xs, c5, c6, c7⟩ hk).1] at q
            have := w.lt (hb.lw hk).1 (by decide)
            omega
        · exact Or.inl ⟨by omega, ll1 l (by omega)⟩
      · have ka := (hb1.isLk ia).1
        rw [(kp2.2.2 a (w1.lt ka (by decide)) (old a ka na)).2.2.2]
      · rw [e252, e25]
        rcases he2 with q | q
        · exact Or.inl q
        · refine Or.inr fun a ia r => ?_
          rw [q] at r
          rcases (hb1.isLk ia).2 with r2 | ⟨cap, r2⟩
          · have := w1.1; omega
          · have := w1.lt r2 (by decide); omega
    have fb2 : FamB h2 f gv op (addL D p) := hb1.kpL w1 kp2 hS y1 y2 y3 (addL_ok hD hp (by omega)) y5
    refine rX9_language_49 ?_
    simp only [bX9_language_49, run, Nat.reduceAdd, lg, st1, st2, lkill, lset, fvv, sfv, kind3, cat1, retI, retA, List.length_cons, List.length_nil, true_and, and_true, or_true, true_or, qX9_language]
    refine sX9_language_51 fb2.lgs.1 (e_forgetAll fb2 fun h3 k3 r3 kp3 f3 => ?_)
    simp only [cont, Option.toList, List.cons_append, List.nil_append]
    have hb3 := f3.b
    obtain ⟨g1, g2, g3, g4, e9, zs, g5, g6, -⟩ := hb3.lgs
    refine rX9_language_54 ?_
    simp only [bX9_language_54, run, Nat.reduceAdd, lg, st1, st2, lkill, lset, fvv, sfv, kind3, cat1, retI, retA, List.length_cons, List.length_nil, true_and, and_true, or_true, true_or, qX9_language, g1, g2, g3, g4, not_true_eq_false, not_false_eq_true, false_implies, true_and, and_true, tti]
    refine sX9_language_61 g5.1 (l_size g5 ?_)
    simp only [cont, Option.toList, List.cons_append, List.nil_append]
    have g6' : zs.length = D.1 + 1 := g6
    refine rX9_language_64 ?_
    simp only [bX9_language_64, run, Nat.reduceAdd, lg, st1, st2, lkill, lset, fvv, sfv, kind3, cat1, retI, retA, List.length_cons, List.length_nil, true_and, and_true, or_true, true_or, qX9_language, g6', nI_pred]
    have fc12 : Fc h h2 := (k1.fc fun a q => q.elim).tr (kp2.mono fun a ha q => by
      rcases hS a ha q with r | r
      · exact Or.inr (Or.inr (Or.inl r))
      · exact Or.inr (Or.inl r))
    exact hq p hp rfl (by omega) h3 (fc12.tr (kp3.fc fun a q => by omega)) f3
