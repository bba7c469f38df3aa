/-! ===== laws and loans made; languages and histories made anew ===== -/
abbrev Kn (h h' : AH) : Prop := Kp (fun _ => False) h h'
theorem Kn.kh {h h' : AH} (x : Kn h h') : Kh h h' := x.mono fun _ _ q => q.elim
theorem e_lawInit {g : Gp} {c : Nat} {a1 a2 a3 a4 : Int32} {h : AH} {Q : PQ} (hc : zK h c = (1, 4)) (h0 : c ≠ 0) (hq : ∀ h', zK h' = zK h → zN h' = zN h → Kp (fun b => b = c) h h' → zI h' c 0 = a1 → zI h' c 1 = a2 → zI h' c 2 = a3 → zI h' c 3 = a4 → Q (.inl none) h') : Ev g mX3_init [vR c, vI a1, vI a2, vI a3, vI a4] h Q := by
  refine nX3_init ?_
  refine rX3_init_0 ?_
  simp only [bX3_init_0, run, Nat.reduceAdd, lg, st1, st2, lkill, lset, fvv, sfv, kind3, cat1, retI, retA, List.length_cons, List.length_nil, true_and, and_true, or_true, true_or, qX3_init]
  refine sX3_init_1 h0 ?_
  refine rX3_init_4 ?_
  simp only [bX3_init_4, run, Nat.reduceAdd, lg, st1, st2, lkill, lset, fvv, sfv, kind3, cat1, retI, retA, List.length_cons, List.length_nil, true_and, and_true, or_true, true_or, qX3_init, hc, kL, kI, kD, kR, rL, rI, rD, iL, iD, iR, lI, lD, lR, not_true_eq_false, not_false_eq_true, false_implies, true_and, and_true, tti]
  refine hq _ rfl rfl ((((Kp.sI (S := fun b => b = c) rfl).tr (Kp.sI rfl)).tr (Kp.sI rfl)).tr (Kp.sI rfl)) ?_ ?_ ?_ ?_
  all_goals (simp only [zI_sI]; rfl)
theorem e_loanInit {g : Gp} {c : Nat} {a1 a2 a3 a4 : Int32} {h : AH} {Q : PQ} (hc : zK h c = (1, 6)) (h0 : c ≠ 0) (hq : ∀ h', zK h' = zK h → zN h' = zN h → Kp (fun b => b = c) h h' → zI h' c 0 = a1 → zI h' c 1 = a2 → zI h' c 2 = a3 → zI h' c 3 = a4 → Q (.inl none) h') : Ev g mX5_init [vR c, vI a1, vI a2, vI a3, vI a4] h Q := by
  refine nX5_init ?_
  refine rX5_init_0 ?_
  simp only [bX5_init_0, run, Nat.reduceAdd, lg, st1, st2, lkill, lset, fvv, sfv, kind3, cat1, retI, retA, List.length_cons, List.length_nil, true_and, and_true, or_true, true_or, qX5_init]
  refine sX5_init_1 h0 ?_
  refine rX5_init_4 ?_
  simp only [bX5_init_4, run, Nat.reduceAdd, lg, st1, st2, lkill, lset, fvv, sfv, kind3, cat1, retI, retA, List.length_cons, List.length_nil, true_and, and_true, or_true, true_or, qX5_init, hc, kL, kI, kD, kR, rL, rI, rD, iL, iD, iR, lI, lD, lR, not_true_eq_false, not_false_eq_true, false_implies, true_and, and_true, tti]
  refine hq _ rfl rfl ((((Kp.sI (S := fun b => b = c) rfl).tr (Kp.sI rfl)).tr (Kp.sI rfl)).tr (Kp.sI rfl)) ?_ ?_ ?_ ?_
  all_goals (simp only [zI_sI]; rfl)
theorem e_langInit {g : Gp} {c : Nat} {p : Int32} {h : AH} {Q : PQ} (hc : zK h c = (1, 3)) (hq : ∀ h', zN h' = zN h + 1 → Kp (fun b => b = c) h h' → zI h' c 0 = p → zR h' c 1 = zN h → LsR h' (zN h) 2 [] → Q (.inl none) h') : Ev g mX2_init [vR c, vI p] h Q := by
  refine nX2_init ?_
  refine Ex.wf (fun w => ?_)
  have h0 : c ≠ 0 := by have := w.ge hc (by decide); omega
  have hl := w.lt hc (by decide)
  have hne : c ≠ zN h := by omega
  refine rX2_init_0 ?_
  simp only [bX2_init_0, run, Nat.reduceAdd, lg, st1, st2, lkill, lset, fvv, sfv, kind3, cat1, retI, retA, List.length_cons, List.length_nil, true_and, and_true, or_true, true_or, qX2_init]
  refine sX2_init_1 h0 ?_
  refine rX2_init_4 ?_
  simp only [bX2_init_4, run, Nat.reduceAdd, lg, st1, st2, lkill, lset, fvv, sfv, kind3, cat1, retI, retA, List.length_cons, List.length_nil, true_and, and_true, or_true, true_or, qX2_init]
  refine ⟨by decide, by decide, sX2_init_9 (by omega) (l_init zK_nw (by show zI (nw h (1, 0)) (zN h) 2 = 0; exact congrFun (up1_s _ _ _) 2) fun h1 l1 kp1 n1 => ?_)⟩
  simp only [cont, Option.toList, List.cons_append, List.nil_append]
  have kc : zK h1 c = (1, 3) := (kp1.kd (wf_nw w) (a := c) (t := 1) (n := 3) ((up1_n _ _ hne).trans hc) (by decide))
  refine rX2_init_12 ?_
  simp only [bX2_init_12, run, Nat.reduceAdd, lg, st1, st2, lkill, lset, fvv, sfv, kind3, cat1, retI, retA, List.length_cons, List.length_nil, true_and, and_true, or_true, true_or, qX2_init, kc, kL, kI, kD, kR, rL, rI, rD, iL, iD, iR, lI, lD, lR, not_true_eq_false, not_false_eq_true, false_implies, true_and, and_true, tti]
  have kpn : Kp (fun b => b = c) h h1 := (Kp.nw (S := fun b => b = c) (kd := (1, 0))).tr2 kp1 fun a ha e => absurd e (by omega)
  have hne2 : zN h ≠ c := fun q => hne q.symm
  refine hq _ (by rw [show zN (sI (sR h1 c 1 (zN h)) c 0 p) = zN h1 from rfl, n1]; rfl) ((kpn.tr (Kp.sR rfl)).tr (Kp.sI rfl)) ?_ ?_ ?_
  · rw [zI_sI, up1_s]
  · rw [rI, zR_sR, up1_s]
  · obtain ⟨l2, l3, l4, l5⟩ := l1
    exact ⟨l2, by rw [zI_n hne2]; exact l3, by rw [rI, zR_n hne2]; exact l4, Or.inl ⟨rfl, rfl⟩⟩
/-- a language that was made after h0 -/
def LgF (h0 h : AH) (c p : Nat) (ws : List Lw) : Prop := zK h c = (1, 3) ∧ zI h c 0 = bI p ∧ zN h0 ≤ c ∧ zN h0 ≤ zR h c 1 ∧ ∃ e ys, (e = 2 ∨ zN h0 ≤ e) ∧ LsR h (zR h c 1) e ys ∧ ys.length = ws.length ∧ ∀ i, i < ws.length → LwR h (ys.getD i 0) (ws.getD i w0)
theorem LgF.lg {h0 h : AH} {c p : Nat} {ws : List Lw} (x : LgF h0 h c p ws) : LgR h c p ws := by
  obtain ⟨a1, a2, a3, a4, e, ys, a5, a6, a7, a8⟩ := x
  exact ⟨a1, a2, e, ys, a6, a7, a8⟩
theorem take_s {xs : List Nat} {k : Nat} (hk : k < xs.length) : xs.take (k + 1) = xs.take k ++ [xs.getD k 0] := by
  rw [List.take_succ, List.getD_eq_getElem?_getD, List.getElem?_eq_getElem hk]
  rfl
theorem ers {xs : List Nat} {k i : Nat} (hk : k < xs.length) : (xs.take (k + 1)).eraseIdx i = if k = i then (xs.take k).eraseIdx i else (xs.take k).eraseIdx i ++ [xs.getD k 0] := by
  have hl : (xs.take k).length = k := by rw [List.length_take]; omega
  rw [take_s hk]
  by_cases e : k = i
  · subst e
    rw [if_pos rfl, List.eraseIdx_append_of_length_le (by omega), hl, Nat.sub_self, List.eraseIdx_of_length_le (l := xs.take k) (by omega)]
    simp
  · rw [if_neg e]
    by_cases e2 : i < k
    · rw [List.eraseIdx_append_of_lt_length (by omega)]
    · rw [List.eraseIdx_append_of_length_le (by omega), hl, List.eraseIdx_of_length_le (l := xs.take k) (by omega), List.eraseIdx_of_length_le (l := [xs.getD k 0]) (by simp; omega)]
theorem getD_ers {α : Type} {xs : List α} {i j : Nat} {d : α} : (xs.eraseIdx i).getD j d = if j < i then xs.getD j d else xs.getD (j + 1) d := by
  rw [List.getD_eq_getElem?_getD, List.getElem?_eraseIdx, List.getD_eq_getElem?_getD, List.getD_eq_getElem?_getD]
  split <;> rfl
theorem cs_lg : Cond.castable RX2 "java/lang/Object" ∈ lw_n := ln_mem (by decide +kernel) rfl
theorem cs_lw : Cond.castable RX3 "java/lang/Object" ∈ lw_n := ln_mem (by decide +kernel) rfl
theorem cs_ln : Cond.castable RX5 "java/lang/Object" ∈ lw_n := ln_mem (by decide +kernel) rfl
theorem mem_D {xs : List Nat} {P : Nat → Prop} (h : ∀ i, i < xs.length → P (xs.getD i 0)) : ∀ y ∈ xs, P y := by
  intro y hy
  obtain ⟨i, hi, e⟩ := List.getElem_of_mem hy
  have := h i hi
  rw [List.getD_eq_getElem?_getD, List.getElem?_eq_getElem hi] at this
  rw [← e]
  exact this
theorem Kn.ad {h h1 h2 : AH} {a e x : Nat} {xs : List Nat} (k : Kn h h1) (ha : zN h ≤ a) (he : e = 2 ∨ zN h ≤ e) (hd : AdP h1 a e xs x h2) : Kn h h2 := by
  obtain ⟨e', -, -, kp, -⟩ := hd
  exact k.tr2 kp fun b hb q => by omega
theorem LwR.kp1 {S : Nat → Prop} {h h' : AH} (w : Wf h) (x : Kp S h h') {a : Nat} {v : Lw} (hS : ¬ S a) (hl : LwR h a v) : LwR h' a v := by
  obtain ⟨h0, h1, h2, h3, h4, h5⟩ := hl
  have s := x.2.2 a (w.lt h1 (by decide)) hS
  exact ⟨h0, x.kd w h1 (by decide), by rw [s.1]; exact h2, by rw [s.1]; exact h3, by rw [s.1]; exact h4, by rw [s.1]; exact h5⟩
theorem e_lackingLaw {g : Gp} {y p i : Nat} {ws : List Lw} {h : AH} {Q : PQ} (hy : LgR h y p ws) (hw : ws.length ≤ 8) (hi : i < ws.length) (hq : ∀ h' c, Kn h h' → LgF h h' c p (ws.eraseIdx i) → Q (.inl (some (vR c))) h') : Ev g mX2_lackingLaw [vR y, vI (nI i)] h Q := by
  obtain ⟨y1, y2, e, xs, y3, y4, y5⟩ := hy
  refine nX2_lackingLaw ?_
  refine Ex.wf (fun w => ?_)
  have wn1 := wf_nw (kd := (1, 3)) w
  have hly := w.lt y1 (by decide)
  refine rX2_lackingLaw_0 ?_
  simp only [bX2_lackingLaw_0, run, Nat.reduceAdd, lg, st1, st2, lkill, lset, fvv, sfv, kind3, cat1, retI, retA, List.length_cons, List.length_nil, true_and, and_true, or_true, true_or, qX2_lackingLaw, show zK (nw h (1, 3)) y = (1, 3) from (up1_n _ _ (by show y ≠ zN h; omega)).trans y1, show zI (nw h (1, 3)) y = zI h y from up1_n _ _ (by show y ≠ zN h; omega), y2, not_true_eq_false, not_false_eq_true, false_implies, true_and, and_true, tti]
  refine ⟨by decide, by decide, sX2_lackingLaw_8 (by decide) (by have := w.1; omega) (e_langInit (zK_nw) fun h1 n1 kp1 c0 c1 ls1 => ?_)⟩
  simp only [cont, Option.toList, List.cons_append, List.nil_append]
  refine rX2_lackingLaw_11 ?_
  simp only [bX2_lackingLaw_11, run, Nat.reduceAdd, lg, st1, st2, lkill, lset, fvv, sfv, kind3, cat1, retI, retA, List.length_cons, List.length_nil, true_and, and_true, or_true, true_or, qX2_lackingLaw]
  have n1' : zN h1 = zN h + 2 := n1
  have k01 : Kn h h1 := (Kp.nw (S := fun _ => False) (kd := (1, 3))).tr2 kp1 fun a ha e => absurd e (by show a ≠ zN h; omega)
  have kc : zK h1 (zN h) = (1, 3) := kp1.kd wn1 (a := zN h) (t := 1) (n := 3) zK_nw (by decide)
  have ec : zN (nw h (1, 3)) = zN h + 1 := rfl
  rw [ec] at c1 ls1
  have hc : clt[4]? = some (RX3, TX3, 4) := rfl
  have x8 : xs.length ≤ 8 := by omega
  have lp : ∀ d k h2 e2 n, k + d = xs.length → Kn h h2 → zK h2 (zN h) = (1, 3) → zI h2 (zN h) 0 = bI p → zR h2 (zN h) 1 = zN h + 1 → (e2 = 2 ∨ zN h ≤ e2) → LsR h2 (zN h + 1) e2 ((xs.take k).eraseIdx i) → n ≤ k → Ex g mX2_lackingLaw 14 [vR y, vI (nI i), vR (zN h), vI (nI k)] [] h2 (2 + n, 5 + 15 * n) Q := by
    intro d
    induction d with
    | zero =>
      intro k h2 e2 n hk kn kc i0 r1 he ls hn
      have e : k = xs.length := by omega
      subst e
      obtain ⟨g1, g2, -, -, g5⟩ := kn.kh.sm w y1 (Or.inr (Or.inr (Or.inr (Or.inl rfl))))
      have y3' := y3.kh w kn.kh
      refine rX2_lackingLaw_14 ?_
      simp only [bX2_lackingLaw_14, run, Nat.reduceAdd, lg, st1, st2, lkill, lset, fvv, sfv, kind3, cat1, retI, retA, List.length_cons, List.length_nil, true_and, and_true, or_true, true_or, qX2_lackingLaw, g1, g5, not_true_eq_false, not_false_eq_true, false_implies, true_and, and_true, tti]
      refine sX2_lackingLaw_19 y3'.1 (l_size y3' ?_)
      simp only [cont, Option.toList, List.cons_append, List.nil_append]
      refine rX2_lackingLaw_22 ?_
      simp only [bX2_lackingLaw_22, run, Nat.reduceAdd, lg, st1, st2, lkill, lset, fvv, sfv, kind3, cat1, retI, retA, List.length_cons, List.length_nil, true_and, and_true, or_true, true_or, qX2_lackingLaw, show nI xs.length ≤ nI xs.length ↔ True from ⟨fun _ => trivial, fun _ => nI_le (Nat.le_refl _) (by omega)⟩, not_true_eq_false, not_false_eq_true, false_implies, true_and, and_true, tti]
      refine rX2_lackingLaw_55 ?_
      simp only [bX2_lackingLaw_55, run, Nat.reduceAdd, lg, st1, st2, lkill, lset, fvv, sfv, kind3, cat1, retI, retA, List.length_cons, List.length_nil, true_and, and_true, or_true, true_or, qX2_lackingLaw]
      rw [List.take_length] at ls
      refine hq _ _ kn ⟨kc, i0, Nat.le_refl _, by rw [r1]; omega, e2, _, he, by rw [r1]; exact ls, ?_, fun j hj => ?_⟩
      · rw [List.length_eraseIdx, List.length_eraseIdx, y4]
      · rw [List.length_eraseIdx, if_pos hi] at hj
        rw [getD_ers, getD_ers]
        split
        · exact (y5 j (by omega)).kh w kn.kh
        · exact (y5 (j + 1) (by omega)).kh w kn.kh
    | succ d ih =>
      intro k h2 e2 n hk kn kc i0 r1 he ls hn
      refine Ex.wf (fun w2 => ?_)
      obtain ⟨g1, g2, -, -, g5⟩ := kn.kh.sm w y1 (Or.inr (Or.inr (Or.inr (Or.inl rfl))))
      have y3' := y3.kh w kn.kh
      have hers := ers (i := i) (show k < xs.length by omega)
      refine rX2_lackingLaw_14 ?_
      simp only [bX2_lackingLaw_14, run, Nat.reduceAdd, lg, st1, st2, lkill, lset, fvv, sfv, kind3, cat1, retI, retA, List.length_cons, List.length_nil, true_and, and_true, or_true, true_or, qX2_lackingLaw, g1, g5, not_true_eq_false, not_false_eq_true, false_implies, true_and, and_true, tti]
      refine sX2_lackingLaw_19 y3'.1 (l_size y3' ?_)
      simp only [cont, Option.toList, List.cons_append, List.nil_append]
      by_cases ek : k = i
      · rw [if_pos ek] at hers
        refine rX2_lackingLaw_22 ?_
        simp only [bX2_lackingLaw_22, run, Nat.reduceAdd, lg, st1, st2, lkill, lset, fvv, sfv, kind3, cat1, retI, retA, List.length_cons, List.length_nil, true_and, and_true, or_true, true_or, qX2_lackingLaw, show nI xs.length ≤ nI k ↔ False from ⟨nI_ge (by omega) (by omega), False.elim⟩, show nI k = nI i ↔ True from ⟨fun _ => trivial, fun _ => by rw [ek]⟩, not_true_eq_false, not_false_eq_true, false_implies, true_and, and_true, tti]
        refine rX2_lackingLaw_49 ?_
        simp only [bX2_lackingLaw_49, run, Nat.reduceAdd, lg, st1, st2, lkill, lset, fvv, sfv, kind3, cat1, retI, retA, List.length_cons, List.length_nil, true_and, and_true, or_true, true_or, qX2_lackingLaw, nI_1]
        exact ih (k + 1) h2 e2 n (by omega) kn kc i0 r1 he (by rw [hers]; exact ls) (by omega)
      · rw [if_neg ek] at hers
        refine rX2_lackingLaw_22 ?_
        simp only [bX2_lackingLaw_22, run, Nat.reduceAdd, lg, st1, st2, lkill, lset, fvv, sfv, kind3, cat1, retI, retA, List.length_cons, List.length_nil, true_and, and_true, or_true, true_or, qX2_lackingLaw, show nI xs.length ≤ nI k ↔ False from ⟨nI_ge (by omega) (by omega), False.elim⟩, show nI k = nI i ↔ False from ⟨fun q => ek ((nI_eq (by omega) (by omega)).mp q), False.elim⟩, g1, g5, kc, r1, not_true_eq_false, not_false_eq_true, false_implies, true_and, and_true, tti]
        refine sX2_lackingLaw_39 y3'.1 (l_get y3' (by omega) ?_)
        simp only [cont, Option.toList, List.cons_append, List.nil_append]
        have hk4 := ((y5 k (by omega)).kh w kn.kh).2.1
        refine rX2_lackingLaw_42 ?_
        simp only [bX2_lackingLaw_42, run, Nat.reduceAdd, lg, st1, st2, lkill, lset, fvv, sfv, kind3, cat1, retI, retA, List.length_cons, List.length_nil, true_and, and_true, or_true, true_or, qX2_lackingLaw, hk4, not_true_eq_false, not_false_eq_true, false_implies, true_and, and_true, tti]
        refine sX2_lackingLaw_45 (by simp only []; omega) ls.1 (l_add (ci := 4) ls (by rw [List.length_eraseIdx, List.length_take]; split <;> omega) hk4 (fun z hz => ?_) hc cs_lw fun h3 ad => ?_)
        · have hz2 : z ∈ xs := List.mem_of_mem_take (List.mem_of_mem_eraseIdx hz)
          exact mem_D (P := fun z => zK h2 z = (1, 4)) (fun j hj => ((y5 j (by omega)).kh w kn.kh).2.1) z hz2
        simp only [cont, Option.toList, List.cons_append, List.nil_append]
        · refine rX2_lackingLaw_48 ?_
          simp only [bX2_lackingLaw_48, run, Nat.reduceAdd, lg, st1, st2, lkill, lset, fvv, sfv, kind3, cat1, retI, retA, List.length_cons, List.length_nil, true_and, and_true, or_true, true_or, qX2_lackingLaw, nI_1]
          have kn3 := kn.ad (by omega) he ad
          obtain ⟨e3, ls3, he3, kp3, hn3⟩ := ad
          have w2 : zN h + 1 < zN h2 := w2.lt ls.1 (by decide)
          have ne2 : ¬ (zN h = zN h + 1 ∨ zN h = e2 ∧ e2 ≠ 2) := by
            rintro (q | ⟨q1, q2⟩)
            · omega
            · rcases ls.2.2.2 with ⟨q3, -⟩ | ⟨cap, q3, -⟩
              · exact q2 q3
              · rw [← q1, kc] at q3
                exact absurd q3 (by simp)
          have sc := kp3.2.2 (zN h) (by omega) ne2
          refine ih (k + 1) h3 e3 (n + 1) (by omega) kn3 ((kp3.2.1 (zN h) (by omega)).trans kc) (by rw [sc.1]; exact i0) (by rw [sc.2.2.2]; exact r1) ?_ (by rw [hers]; exact ls3) (by omega)
          omega
  exact lp _ 0 h1 2 0 (Nat.zero_add _) k01 kc c0 c1 (Or.inl rfl) ls1 (Nat.le_refl _)
/-- with one law and the next one in each other's place -/
def swp (i : Nat) (ws : List Lw) : List Lw := (ws.eraseIdx i).take (i + 1) ++ ws.getD i w0 :: (ws.eraseIdx i).drop (i + 1)
theorem getD_ins {α : Type} {ys : List α} {i j : Nat} {x d : α} (hi : i ≤ ys.length) : (ys.take i ++ x :: ys.drop i).getD j d = if j < i then ys.getD j d else if j = i then x else ys.getD (j - 1) d := by
  have hl : (ys.take i).length = i := by rw [List.length_take]; omega
  rw [List.getD_eq_getElem?_getD, List.getD_eq_getElem?_getD, List.getD_eq_getElem?_getD]
  by_cases h1 : j < i
  · rw [if_pos h1, List.getElem?_append_left (by omega), List.getElem?_take_of_lt h1]
  · rw [if_neg h1, List.getElem?_append_right (by omega), hl]
    by_cases h2 : j = i
    · rw [if_pos h2, h2, Nat.sub_self]; rfl
    · rw [if_neg h2, show j - i = (j - i - 1) + 1 by omega, List.getElem?_cons_succ, List.getElem?_drop, show i + (j - i - 1) = j - 1 by omega]
theorem e_swappingLaw {g : Gp} {y p i : Nat} {ws : List Lw} {h : AH} {Q : PQ} (hy : LgR h y p ws) (hw : ws.length ≤ 8) (hi : i + 1 < ws.length) (hq : ∀ h' c, Kn h h' → LgR h' c p (swp i ws) → Q (.inl (some (vR c))) h') : Ev g mX2_swappingLaw [vR y, vI (nI i)] h Q := by
  have hy0 := hy
  obtain ⟨y1, y2, e, xs, y3, y4, y5⟩ := hy
  refine nX2_swappingLaw ?_
  refine Ex.wf (fun w => ?_)
  refine rX2_swappingLaw_0 ?_
  simp only [bX2_swappingLaw_0, run, Nat.reduceAdd, lg, st1, st2, lkill, lset, fvv, sfv, kind3, cat1, retI, retA, List.length_cons, List.length_nil, true_and, and_true, or_true, true_or, qX2_swappingLaw]
  refine sX2_swappingLaw_2 (by decide) y1 (e_lackingLaw hy0 hw (by omega) fun h1 c k1 lf => ?_)
  simp only [cont, Option.toList, List.cons_append, List.nil_append]
  obtain ⟨f1, f2, f3, f4, e2, ys, f5, f6, f7, f8⟩ := lf
  obtain ⟨g1, g2, -, -, g5⟩ := k1.kh.sm w y1 (Or.inr (Or.inr (Or.inr (Or.inl rfl))))
  have y3' := y3.kh w k1.kh
  have hlen : (ws.eraseIdx i).length = ws.length - 1 := by rw [List.length_eraseIdx, if_pos (by omega)]
  refine rX2_swappingLaw_5 ?_
  simp only [bX2_swappingLaw_5, run, Nat.reduceAdd, lg, st1, st2, lkill, lset, fvv, sfv, kind3, cat1, retI, retA, List.length_cons, List.length_nil, true_and, and_true, or_true, true_or, qX2_swappingLaw, f1, g1, g5, nI_1, not_true_eq_false, not_false_eq_true, false_implies, true_and, and_true, tti]
  refine sX2_swappingLaw_18 y3'.1 (l_get y3' (by omega) ?_)
  simp only [cont, Option.toList, List.cons_append, List.nil_append]
  have hk4 := ((y5 i (by omega)).kh w k1.kh).2.1
  refine Ex.wf (fun w1 => ?_)
  refine rX2_swappingLaw_21 ?_
  simp only [bX2_swappingLaw_21, run, Nat.reduceAdd, lg, st1, st2, lkill, lset, fvv, sfv, kind3, cat1, retI, retA, List.length_cons, List.length_nil, true_and, and_true, or_true, true_or, qX2_swappingLaw, hk4, not_true_eq_false, not_false_eq_true, false_implies, true_and, and_true, tti]
  refine sX2_swappingLaw_24 (by decide) f6.1 (l_addAt (ci := 4) f6 (by intro q; rw [q] at f7; simp at f7; omega) (by omega) (by omega) hk4 (mem_D (P := fun z => zK h1 z = (1, 4)) fun j hj => (f8 j (by omega)).2.1) (show clt[4]? = some (RX3, TX3, 4) from rfl) cs_lw fun h2 ls2 kp2 n2 => ?_)
  simp only [cont, Option.toList, List.cons_append, List.nil_append]
  refine rX2_swappingLaw_27 ?_
  simp only [bX2_swappingLaw_27, run, Nat.reduceAdd, lg, st1, st2, lkill, lset, fvv, sfv, kind3, cat1, retI, retA, List.length_cons, List.length_nil, true_and, and_true, or_true, true_or, qX2_swappingLaw]
  have ne2 : ∀ z, zK h1 z = (1, 3) ∨ zK h1 z = (1, 4) → ¬ (z = zR h1 c 1 ∨ z = e2) := by
    rintro z hz (q | q)
    · rw [q, f6.1] at hz; simp at hz
    · rcases f6.2.2.2 with ⟨q3, q4⟩ | ⟨cap, q3, -⟩
      · rw [q4] at f7; simp at f7; omega
      · rw [q, q3] at hz; simp at hz
  have e2n : e2 ≠ 2 := fun q => by
    rcases f6.2.2.2 with ⟨q3, q4⟩ | ⟨cap, q3, -⟩
    · rw [q4] at f7; simp at f7; omega
    · have := w1.ge q3 (by decide); omega
  have sc := kp2.2.2 c (w1.lt f1 (by decide)) (ne2 c (Or.inl f1))
  have lw : ∀ z v, LwR h1 z v → LwR h2 z v := fun z v q => LwR.kp1 w1 kp2 (ne2 z (Or.inr q.2.1)) q
  have hins := fun j => getD_ins (ys := ys) (i := i + 1) (j := j) (x := xs.getD i 0) (d := 0) (by omega)
  have hins2 := fun j => getD_ins (ys := ws.eraseIdx i) (i := i + 1) (j := j) (x := ws.getD i w0) (d := w0) (by omega)
  refine hq h2 c (k1.tr2 kp2 fun b hb q => by omega) ⟨(kp2.2.1 c (w1.lt f1 (by decide))).trans f1, by rw [sc.1]; exact f2, e2, _, by rw [sc.2.2.2]; exact ls2, ?_, fun j hj => ?_⟩
  · unfold swp
    simp only [List.length_append, List.length_cons, List.length_take, List.length_drop]
    omega
  · have hj2 : j < ws.length := by
      unfold swp at hj
      simp only [List.length_append, List.length_cons, List.length_take, List.length_drop] at hj
      omega
    unfold swp
    rw [hins, hins2]
    split
    · exact lw _ _ (f8 j (by omega))
    · split
      · exact lw _ _ ((y5 i (by omega)).kh w k1.kh)
      · exact lw _ _ (f8 (j - 1) (by omega))
/-- one language's laws told anew -/
def fup2 (ls : Nat → List Lw) (l : Nat) (ws : List Lw) : Nat → List Lw := fun k => if k = l then ws else ls k
/-- a list of places -/
def tkl (F : Nat → Nat) (n : Nat) : List Nat := (List.range n).map F
theorem tkl_s {F : Nat → Nat} {n : Nat} : tkl F (n + 1) = tkl F n ++ [F n] := by
  unfold tkl
  rw [List.range_succ, List.map_append]
  rfl
theorem tkl_len {F : Nat → Nat} {n : Nat} : (tkl F n).length = n := by simp [tkl]
theorem tkl_get {F : Nat → Nat} {n i : Nat} (h : i < n) : (tkl F n).getD i 0 = F i := by simp [tkl, List.getD_eq_getElem?_getD, h]
theorem e_histInit {g : Gp} {c a b : Nat} {h : AH} {Q : PQ} (hc : zK h c = (1, 2)) (h0 : c ≠ 0) (hq : ∀ h', zN h' = zN h → Kp (fun b => b = c) h h' → zR h' c 0 = a → zR h' c 1 = b → Q (.inl none) h') : Ev g mX1_init [vR c, vR a, vR b] h Q := by
  refine nX1_init ?_
  refine rX1_init_0 ?_
  simp only [bX1_init_0, run, Nat.reduceAdd, lg, st1, st2, lkill, lset, fvv, sfv, kind3, cat1, retI, retA, List.length_cons, List.length_nil, true_and, and_true, or_true, true_or, qX1_init]
  refine sX1_init_1 h0 ?_
  refine rX1_init_4 ?_
  simp only [bX1_init_4, run, Nat.reduceAdd, lg, st1, st2, lkill, lset, fvv, sfv, kind3, cat1, retI, retA, List.length_cons, List.length_nil, true_and, and_true, or_true, true_or, qX1_init, hc, kL, kI, kD, kR, rL, rI, rD, iL, iD, iR, lI, lD, lR, not_true_eq_false, not_false_eq_true, false_implies, true_and, and_true, tti]
  refine hq _ rfl ((Kp.sR (S := fun b => b = c) rfl).tr (Kp.sR rfl)) ?_ ?_
  all_goals (simp only [zR_sR]; rfl)
theorem e_replacing {g : Gp} {hs c l : Nat} {D : HD} {ws : List Lw} {h : AH} {Q : PQ} (hh : HsR h hs D) (hD : hdOk D) (hl : l < D.1) (hc : LgR h c (pc D.2.1 l) ws) (hq : ∀ h' c', Kn h h' → HsR h' c' (D.1, D.2.1, fup2 D.2.2.1 l ws, D.2.2.2) → Q (.inl (some (vR c'))) h') : Ev g mX1_replacing [vR hs, vI (nI l), vR c] h Q := by
  have hD1 := hD.2.1
  have hh0 := hh
  obtain ⟨b1, ⟨e, xs, b2, b3, b4⟩, b5⟩ := hh
  refine nX1_replacing ?_
  refine Ex.wf (fun w => ?_)
  have wn1 := wf_nw (kd := (1, 0)) w
  have w4 := w.1
  refine rX1_replacing_0 ?_
  simp only [bX1_replacing_0, run, Nat.reduceAdd, lg, st1, st2, lkill, lset, fvv, sfv, kind3, cat1, retI, retA, List.length_cons, List.length_nil, true_and, and_true, or_true, true_or, qX1_replacing]
  refine ⟨by decide, by decide, sX1_replacing_4 (by omega) (l_init zK_nw (by show zI (nw h (1, 0)) (zN h) 2 = 0; exact congrFun (up1_s _ _ _) 2) fun h1 ls1 kp1 n1 => ?_)⟩
  simp only [cont, Option.toList, List.cons_append, List.nil_append]
  refine rX1_replacing_7 ?_
  simp only [bX1_replacing_7, run, Nat.reduceAdd, lg, st1, st2, lkill, lset, fvv, sfv, kind3, cat1, retI, retA, List.length_cons, List.length_nil, true_and, and_true, or_true, true_or, qX1_replacing]
  have k01 : Kn h h1 := (Kp.nw (S := fun _ => False) (kd := (1, 0))).tr2 kp1 fun a ha e => absurd e (by show a ≠ zN h; omega)
  generalize hF : (fun k => if k = l then c else xs.getD k 0) = F
  have hFk : ∀ k, k < D.1 → LgR h (F k) (pc D.2.1 k) (fup2 D.2.2.1 l ws k) := fun k hk => by
    rw [← hF]
    unfold fup2
    by_cases e : k = l
    · simp only [if_pos e]; rw [e]; exact hc
    · simp only [if_neg e]; exact b4 k hk
  have lp : ∀ d k h2 e2, k + d = xs.length → Kn h h2 → (e2 = 2 ∨ zN h ≤ e2) → LsR h2 (zN h) e2 (tkl F k) → Ex g mX1_replacing 11 [vR hs, vI (nI l), vR c, vR (zN h), vI (nI k)] [] h2 (1 + k, 3 + 15 * k) Q := by
    intro d
    induction d with
    | zero =>
      intro k h2 e2 hk kn he ls
      have e : k = xs.length := by omega
      subst e
      refine Ex.wf (fun w2 => ?_)
      obtain ⟨g1, -, -, -, g5⟩ := kn.kh.sm w b1 (Or.inr (Or.inr (Or.inl rfl)))
      have b2' := b2.kh w kn.kh
      refine rX1_replacing_11 ?_
      simp only [bX1_replacing_11, run, Nat.reduceAdd, lg, st1, st2, lkill, lset, fvv, sfv, kind3, cat1, retI, retA, List.length_cons, List.length_nil, true_and, and_true, or_true, true_or, qX1_replacing, g1, g5, not_true_eq_false, not_false_eq_true, false_implies, true_and, and_true, tti]
      refine sX1_replacing_17 b2'.1 (l_size b2' ?_)
      simp only [cont, Option.toList, List.cons_append, List.nil_append]
      refine rX1_replacing_20 ?_
      simp only [bX1_replacing_20, run, Nat.reduceAdd, lg, st1, st2, lkill, lset, fvv, sfv, kind3, cat1, retI, retA, List.length_cons, List.length_nil, true_and, and_true, or_true, true_or, qX1_replacing, show nI xs.length ≤ nI xs.length ↔ True from ⟨fun _ => trivial, fun _ => nI_le (Nat.le_refl _) (by omega)⟩, not_true_eq_false, not_false_eq_true, false_implies, true_and, and_true, tti]
      have l2 := w2.lt g1 (by decide)
      have w24 := w2.1
      have q1 : zK (nw h2 (1, 2)) hs = (1, 2) := (up1_n _ _ (by show hs ≠ zN h2; omega)).trans g1
      have q2 : zR (nw h2 (1, 2)) hs = zR h hs := (up1_n _ _ (by show hs ≠ zN h2; omega)).trans g5
      refine rX1_replacing_56 ?_
      simp only [bX1_replacing_56, run, Nat.reduceAdd, lg, st1, st2, lkill, lset, fvv, sfv, kind3, cat1, retI, retA, List.length_cons, List.length_nil, true_and, and_true, or_true, true_or, qX1_replacing, q1, q2, not_true_eq_false, not_false_eq_true, false_implies, true_and, and_true, tti]
      refine ⟨by show 1 + xs.length + 1 ≤ 12; omega, by show 3 + 15 * xs.length + 2 ≤ 155; omega, sX1_replacing_65 (by omega) (e_histInit zK_nw (by omega) fun h3 n3 kp3 r0 r1 => ?_)⟩
      simp only [cont, Option.toList, List.cons_append, List.nil_append]
      refine rX1_replacing_68 ?_
      simp only [bX1_replacing_68, run, Nat.reduceAdd, lg, st1, st2, lkill, lset, fvv, sfv, kind3, cat1, retI, retA, List.length_cons, List.length_nil, true_and, and_true, or_true, true_or, qX1_replacing]
      have k23 : Kn h2 h3 := (Kp.nw (S := fun _ => False) (kd := (1, 2))).tr2 kp3 fun a ha e => absurd e (by show a ≠ zN h2; omega)
      have k03 : Kn h h3 := kn.tr k23
      refine hq _ _ k03 ⟨kp3.kd (wf_nw w2) zK_nw (by decide), ?_, ?_⟩
      · rw [r0]
        refine ⟨e2, _, ls.kh w2 k23.kh, by rw [tkl_len]; exact b3, fun k hk => ?_⟩
        rw [tkl_get (by rw [b3]; exact hk)]
        exact (hFk k hk).kh w k03.kh
      · rw [r1]
        exact b5.kh w k03.kh
    | succ d ih =>
      intro k h2 e2 hk kn he ls
      refine Ex.wf (fun w2 => ?_)
      obtain ⟨g1, -, -, -, g5⟩ := kn.kh.sm w b1 (Or.inr (Or.inr (Or.inl rfl)))
      have b2' := b2.kh w kn.kh
      have hyk := (hFk k (by omega)).kh w kn.kh
      have add : Ex g mX1_replacing 46 [vR hs, vI (nI l), vR c, vR (zN h), vI (nI k)] [vR (F k), vR (zN h)] h2 (1 + k, 3 + 15 * k) Q := by
        refine sX1_replacing_46 (by show 1 + k + 1 ≤ 12 ∧ 3 + 15 * k + 15 ≤ 155; omega) ls.1 (l_add (ci := 3) ls (by rw [tkl_len]; omega) hyk.1 (mem_D (P := fun z => zK h2 z = (1, 3)) fun j hj => ?_) (show clt[3]? = some (RX2, TX2, 2) from rfl) cs_lg fun h3 ad => ?_)
        · rw [tkl_len] at hj
          rw [tkl_get hj]
          exact ((hFk j (by omega)).kh w kn.kh).1
        simp only [cont, Option.toList, List.cons_append, List.nil_append]
        refine rX1_replacing_49 ?_
        simp only [bX1_replacing_49, run, Nat.reduceAdd, lg, st1, st2, lkill, lset, fvv, sfv, kind3, cat1, retI, retA, List.length_cons, List.length_nil, true_and, and_true, or_true, true_or, qX1_replacing, nI_1]
        have kn3 := kn.ad (Nat.le_refl _) he ad
        obtain ⟨e3, ls3, he3, kp3, hn3⟩ := ad
        have w2l : zN h < zN h2 := w2.lt ls.1 (by decide)
        rw [← tkl_s] at ls3
        exact ih (k + 1) h3 e3 (by omega) kn3 (by omega) ls3
      refine rX1_replacing_11 ?_
      simp only [bX1_replacing_11, run, Nat.reduceAdd, lg, st1, st2, lkill, lset, fvv, sfv, kind3, cat1, retI, retA, List.length_cons, List.length_nil, true_and, and_true, or_true, true_or, qX1_replacing, g1, g5, not_true_eq_false, not_false_eq_true, false_implies, true_and, and_true, tti]
      refine sX1_replacing_17 b2'.1 (l_size b2' ?_)
      simp only [cont, Option.toList, List.cons_append, List.nil_append]
      by_cases ek : k = l
      · have eF : F k = c := by rw [← hF]; exact if_pos ek
        rw [eF] at add
        refine rX1_replacing_20 ?_
        simp only [bX1_replacing_20, run, Nat.reduceAdd, lg, st1, st2, lkill, lset, fvv, sfv, kind3, cat1, retI, retA, List.length_cons, List.length_nil, true_and, and_true, or_true, true_or, qX1_replacing, show nI xs.length ≤ nI k ↔ False from ⟨nI_ge (by omega) (by omega), False.elim⟩, show nI k = nI l ↔ True from ⟨fun _ => trivial, fun _ => by rw [ek]⟩, not_true_eq_false, not_false_eq_true, false_implies, true_and, and_true, tti]
        exact add
      · have eF : F k = xs.getD k 0 := by rw [← hF]; exact if_neg ek
        rw [eF] at add hyk
        refine rX1_replacing_20 ?_
        simp only [bX1_replacing_20, run, Nat.reduceAdd, lg, st1, st2, lkill, lset, fvv, sfv, kind3, cat1, retI, retA, List.length_cons, List.length_nil, true_and, and_true, or_true, true_or, qX1_replacing, show nI xs.length ≤ nI k ↔ False from ⟨nI_ge (by omega) (by omega), False.elim⟩, show nI k = nI l ↔ False from ⟨fun q => ek ((nI_eq (by omega) (by omega)).mp q), False.elim⟩, not_true_eq_false, not_false_eq_true, false_implies, true_and, and_true, tti]
        refine rX1_replacing_34 ?_
        simp only [bX1_replacing_34, run, Nat.reduceAdd, lg, st1, st2, lkill, lset, fvv, sfv, kind3, cat1, retI, retA, List.length_cons, List.length_nil, true_and, and_true, or_true, true_or, qX1_replacing, g1, g5, not_true_eq_false, not_false_eq_true, false_implies, true_and, and_true, tti]
        refine sX1_replacing_40 b2'.1 (l_get b2' (by omega) ?_)
        simp only [cont, Option.toList, List.cons_append, List.nil_append]
        refine rX1_replacing_43 ?_
        simp only [bX1_replacing_43, run, Nat.reduceAdd, lg, st1, st2, lkill, lset, fvv, sfv, kind3, cat1, retI, retA, List.length_cons, List.length_nil, true_and, and_true, or_true, true_or, qX1_replacing, hyk.1, not_true_eq_false, not_false_eq_true, false_implies, true_and, and_true, tti]
        exact add
  exact lp _ 0 h1 2 (Nat.zero_add _) k01 (Or.inl rfl) ls1
theorem e_lackingLoan {g : Gp} {hs i : Nat} {D : HD} {h : AH} {Q : PQ} (hh : HsR h hs D) (hD : hdOk D) (hi : i < D.2.2.2.length) (hq : ∀ h' c', Kn h h' → HsR h' c' (D.1, D.2.1, D.2.2.1, D.2.2.2.eraseIdx i) → Q (.inl (some (vR c'))) h') : Ev g mX1_lackingLoan [vR hs, vI (nI i)] h Q := by
  have hD5 := hD.2.2.2.2.1
  have hh0 := hh
  obtain ⟨b1, b5, ⟨e, xs, b2, b3, b4⟩⟩ := hh
  refine nX1_lackingLoan ?_
  refine Ex.wf (fun w => ?_)
  have wn1 := wf_nw (kd := (1, 0)) w
  have w4 := w.1
  refine rX1_lackingLoan_0 ?_
  simp only [bX1_lackingLoan_0, run, Nat.reduceAdd, lg, st1, st2, lkill, lset, fvv, sfv, kind3, cat1, retI, retA, List.length_cons, List.length_nil, true_and, and_true, or_true, true_or, qX1_lackingLoan]
  refine ⟨by decide, by decide, sX1_lackingLoan_4 (by omega) (l_init zK_nw (by show zI (nw h (1, 0)) (zN h) 2 = 0; exact congrFun (up1_s _ _ _) 2) fun h1 ls1 kp1 n1 => ?_)⟩
  simp only [cont, Option.toList, List.cons_append, List.nil_append]
  refine rX1_lackingLoan_7 ?_
  simp only [bX1_lackingLoan_7, run, Nat.reduceAdd, lg, st1, st2, lkill, lset, fvv, sfv, kind3, cat1, retI, retA, List.length_cons, List.length_nil, true_and, and_true, or_true, true_or, qX1_lackingLoan]
  have k01 : Kn h h1 := (Kp.nw (S := fun _ => False) (kd := (1, 0))).tr2 kp1 fun a ha e => absurd e (by show a ≠ zN h; omega)
  have lp : ∀ d k h2 e2 n, k + d = xs.length → Kn h h2 → (e2 = 2 ∨ zN h ≤ e2) → LsR h2 (zN h) e2 ((xs.take k).eraseIdx i) → n ≤ k → Ex g mX1_lackingLoan 10 [vR hs, vI (nI i), vR (zN h), vI (nI k)] [] h2 (1 + n, 3 + 15 * n) Q := by
    intro d
    induction d with
    | zero =>
      intro k h2 e2 n hk kn he ls hn
      have e : k = xs.length := by omega
      subst e
      refine Ex.wf (fun w2 => ?_)
      obtain ⟨g1, -, -, -, g5⟩ := kn.kh.sm w b1 (Or.inr (Or.inr (Or.inl rfl)))
      have b2' := b2.kh w kn.kh
      refine rX1_lackingLoan_10 ?_
      simp only [bX1_lackingLoan_10, run, Nat.reduceAdd, lg, st1, st2, lkill, lset, fvv, sfv, kind3, cat1, retI, retA, List.length_cons, List.length_nil, true_and, and_true, or_true, true_or, qX1_lackingLoan, g1, g5, not_true_eq_false, not_false_eq_true, false_implies, true_and, and_true, tti]
      refine sX1_lackingLoan_15 b2'.1 (l_size b2' ?_)
      simp only [cont, Option.toList, List.cons_append, List.nil_append]
      refine rX1_lackingLoan_18 ?_
      simp only [bX1_lackingLoan_18, run, Nat.reduceAdd, lg, st1, st2, lkill, lset, fvv, sfv, kind3, cat1, retI, retA, List.length_cons, List.length_nil, true_and, and_true, or_true, true_or, qX1_lackingLoan, show nI xs.length ≤ nI xs.length ↔ True from ⟨fun _ => trivial, fun _ => nI_le (Nat.le_refl _) (by omega)⟩, not_true_eq_false, not_false_eq_true, false_implies, true_and, and_true, tti]
      have l2 := w2.lt g1 (by decide)
      have w24 := w2.1
      have q1 : zK (nw h2 (1, 2)) hs = (1, 2) := (up1_n _ _ (by show hs ≠ zN h2; omega)).trans g1
      have q2 : zR (nw h2 (1, 2)) hs = zR h hs := (up1_n _ _ (by show hs ≠ zN h2; omega)).trans g5
      refine rX1_lackingLoan_48 ?_
      simp only [bX1_lackingLoan_48, run, Nat.reduceAdd, lg, st1, st2, lkill, lset, fvv, sfv, kind3, cat1, retI, retA, List.length_cons, List.length_nil, true_and, and_true, or_true, true_or, qX1_lackingLoan, q1, q2, not_true_eq_false, not_false_eq_true, false_implies, true_and, and_true, tti]
      refine ⟨by show 1 + n + 1 ≤ 14; omega, by show 3 + 15 * n + 2 ≤ 185; omega, sX1_lackingLoan_57 (by omega) (e_histInit zK_nw (by omega) fun h3 n3 kp3 r0 r1 => ?_)⟩
      simp only [cont, Option.toList, List.cons_append, List.nil_append]
      refine rX1_lackingLoan_60 ?_
      simp only [bX1_lackingLoan_60, run, Nat.reduceAdd, lg, st1, st2, lkill, lset, fvv, sfv, kind3, cat1, retI, retA, List.length_cons, List.length_nil, true_and, and_true, or_true, true_or, qX1_lackingLoan]
      have k23 : Kn h2 h3 := (Kp.nw (S := fun _ => False) (kd := (1, 2))).tr2 kp3 fun a ha e => absurd e (by show a ≠ zN h2; omega)
      have k03 : Kn h h3 := kn.tr k23
      rw [List.take_length] at ls
      refine hq _ _ k03 ⟨kp3.kd (wf_nw w2) zK_nw (by decide), ?_, ?_⟩
      · rw [r0]
        exact b5.kh w k03.kh
      · rw [r1]
        refine ⟨e2, _, ls.kh w2 k23.kh, by rw [List.length_eraseIdx, List.length_eraseIdx, b3], fun j hj => ?_⟩
        rw [List.length_eraseIdx, if_pos hi] at hj
        rw [getD_ers, getD_ers]
        split
        · exact (b4 j (by omega)).kh w k03.kh
        · exact (b4 (j + 1) (by omega)).kh w k03.kh
    | succ d ih =>
      intro k h2 e2 n hk kn he ls hn
      refine Ex.wf (fun w2 => ?_)
      obtain ⟨g1, -, -, -, g5⟩ := kn.kh.sm w b1 (Or.inr (Or.inr (Or.inl rfl)))
      have b2' := b2.kh w kn.kh
      have hers := ers (i := i) (show k < xs.length by omega)
      refine rX1_lackingLoan_10 ?_
      simp only [bX1_lackingLoan_10, run, Nat.reduceAdd, lg, st1, st2, lkill, lset, fvv, sfv, kind3, cat1, retI, retA, List.length_cons, List.length_nil, true_and, and_true, or_true, true_or, qX1_lackingLoan, g1, g5, not_true_eq_false, not_false_eq_true, false_implies, true_and, and_true, tti]
      refine sX1_lackingLoan_15 b2'.1 (l_size b2' ?_)
      simp only [cont, Option.toList, List.cons_append, List.nil_append]
      by_cases ek : k = i
      · rw [if_pos ek] at hers
        refine rX1_lackingLoan_18 ?_
        simp only [bX1_lackingLoan_18, run, Nat.reduceAdd, lg, st1, st2, lkill, lset, fvv, sfv, kind3, cat1, retI, retA, List.length_cons, List.length_nil, true_and, and_true, or_true, true_or, qX1_lackingLoan, show nI xs.length ≤ nI k ↔ False from ⟨nI_ge (by omega) (by omega), False.elim⟩, show nI k = nI i ↔ True from ⟨fun _ => trivial, fun _ => by rw [ek]⟩, not_true_eq_false, not_false_eq_true, false_implies, true_and, and_true, tti]
        refine rX1_lackingLoan_42 ?_
        simp only [bX1_lackingLoan_42, run, Nat.reduceAdd, lg, st1, st2, lkill, lset, fvv, sfv, kind3, cat1, retI, retA, List.length_cons, List.length_nil, true_and, and_true, or_true, true_or, qX1_lackingLoan, nI_1]
        exact ih (k + 1) h2 e2 n (by omega) kn he (by rw [hers]; exact ls) (by omega)
      · rw [if_neg ek] at hers
        refine rX1_lackingLoan_18 ?_
        simp only [bX1_lackingLoan_18, run, Nat.reduceAdd, lg, st1, st2, lkill, lset, fvv, sfv, kind3, cat1, retI, retA, List.length_cons, List.length_nil, true_and, and_true, or_true, true_or, qX1_lackingLoan, show nI xs.length ≤ nI k ↔ False from ⟨nI_ge (by omega) (by omega), False.elim⟩, show nI k = nI i ↔ False from ⟨fun q => ek ((nI_eq (by omega) (by omega)).mp q), False.elim⟩, g1, g5, not_true_eq_false, not_false_eq_true, false_implies, true_and, and_true, tti]
        refine sX1_lackingLoan_32 b2'.1 (l_get b2' (by omega) ?_)
        simp only [cont, Option.toList, List.cons_append, List.nil_append]
        have hk4 := ((b4 k (by omega)).kh w kn.kh).1
        refine rX1_lackingLoan_35 ?_
        simp only [bX1_lackingLoan_35, run, Nat.reduceAdd, lg, st1, st2, lkill, lset, fvv, sfv, kind3, cat1, retI, retA, List.length_cons, List.length_nil, true_and, and_true, or_true, true_or, qX1_lackingLoan, hk4, not_true_eq_false, not_false_eq_true, false_implies, true_and, and_true, tti]
        refine sX1_lackingLoan_38 (by show 1 + n + 1 ≤ 14 ∧ 3 + 15 * n + 15 ≤ 185; omega) ls.1 (l_add (ci := 6) ls (by rw [List.length_eraseIdx, List.length_take]; split <;> omega) hk4 (fun z hz => ?_) (show clt[6]? = some (RX5, TX5, 4) from rfl) cs_ln fun h3 ad => ?_)
        · have hz2 : z ∈ xs := List.mem_of_mem_take (List.mem_of_mem_eraseIdx hz)
          exact mem_D (P := fun z => zK h2 z = (1, 6)) (fun j hj => ((b4 j (by omega)).kh w kn.kh).1) z hz2
        simp only [cont, Option.toList, List.cons_append, List.nil_append]
        refine rX1_lackingLoan_41 ?_
        simp only [bX1_lackingLoan_41, run, Nat.reduceAdd, lg, st1, st2, lkill, lset, fvv, sfv, kind3, cat1, retI, retA, List.length_cons, List.length_nil, true_and, and_true, or_true, true_or, qX1_lackingLoan, nI_1]
        have kn3 := kn.ad (Nat.le_refl _) he ad
        obtain ⟨e3, ls3, he3, kp3, hn3⟩ := ad
        have w2l : zN h < zN h2 := w2.lt ls.1 (by decide)
        exact ih (k + 1) h3 e3 (n + 1) (by omega) kn3 (by omega) (by rw [hers]; exact ls3) (by omega)
  exact lp _ 0 h1 2 0 (Nat.zero_add _) k01 (Or.inl rfl) ls1 (Nat.le_refl _)
