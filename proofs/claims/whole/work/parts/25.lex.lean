/-! ===== a lexicon ===== -/
/-- the lexicon at x, its rows from b on -/
def LxS (h : AH) (x b : Nat) : Prop := zK h x = (1, 5) ∧ zR h x 1 = 5 ∧ zR h x 2 = 24 ∧ zR h x 3 = b ∧ zR h x 4 = b + 1 ∧ zR h x 5 = b + 2 ∧ zR h x 6 = b + 3 ∧ zK h b = (3, 120) ∧ zK h (b + 1) = (2, 120) ∧ zK h (b + 2) = (2, 120) ∧ zK h (b + 3) = (4, 12) ∧ x < b ∧ 25 ≤ b
def GvR (h : AH) (gv : Nat → List Nat) : Prop := zK h 24 = (3, 12) ∧ ∀ m, m < 12 → Wok (gv m) ∧ zL h 24 m = eC (gv m)
def CR (h : AH) (b k : Nat) (c : Cell3) : Prop := zL h b k = eC c.1 ∧ zI h (b + 1) k = bI c.2.1 ∧ zI h (b + 2) k = nI c.2.2
def Cw (b k : Nat) (h h' : AH) : Prop := Kp (fun a => b ≤ a ∧ a ≤ b + 2) h h' ∧ ∀ j, j ≠ k → zL h' b j = zL h b j ∧ zI h' (b + 1) j = zI h (b + 1) j ∧ zI h' (b + 2) j = zI h (b + 2) j
theorem Cw.rf {b k : Nat} {h : AH} : Cw b k h h := ⟨Kp.rf, fun _ _ => ⟨rfl, rfl, rfl⟩⟩
theorem Cw.tr {b k : Nat} {h1 h2 h3 : AH} (x : Cw b k h1 h2) (y : Cw b k h2 h3) : Cw b k h1 h3 :=
  ⟨x.1.tr y.1, fun j hj => ⟨(y.2 j hj).1.trans (x.2 j hj).1, (y.2 j hj).2.1.trans (x.2 j hj).2.1, (y.2 j hj).2.2.trans (x.2 j hj).2.2⟩⟩
theorem Cw.wL {b k : Nat} {h : AH} {v : Int64} : Cw b k h (sL h b k v) :=
  ⟨Kp.sL ⟨Nat.le_refl _, by omega⟩, fun j hj => ⟨by rw [zL_sL]; exact up1_n _ _ hj, rfl, rfl⟩⟩
theorem Cw.wI1 {b k : Nat} {h : AH} {v : Int32} : Cw b k h (sI h (b + 1) k v) :=
  ⟨Kp.sI ⟨by omega, by omega⟩, fun j hj => ⟨rfl, by rw [zI_sI]; exact up1_n _ _ hj, congrFun (up1_n (zI h) _ (by omega)) j⟩⟩
theorem Cw.wI2 {b k : Nat} {h : AH} {v : Int32} : Cw b k h (sI h (b + 2) k v) :=
  ⟨Kp.sI ⟨by omega, by omega⟩, fun j hj => ⟨rfl, congrFun (up1_n (zI h) _ (by omega)) j, by rw [zI_sI]; exact up1_n _ _ hj⟩⟩
theorem CR.cw {b k j : Nat} {h h' : AH} {c : Cell3} (x : Cw b k h h') (hj : j ≠ k) (hc : CR h b j c) : CR h' b j c :=
  ⟨(x.2 j hj).1.trans hc.1, (x.2 j hj).2.1.trans hc.2.1, (x.2 j hj).2.2.trans hc.2.2⟩
theorem CR.w3 {b k : Nat} {h : AH} {c : Cell3} {v : Int64} {o t : Int32} (h1 : v = eC c.1) (h2 : o = bI c.2.1) (h3 : t = nI c.2.2) : CR (sI (sI (sL h b k v) (b + 1) k o) (b + 2) k t) b k c := by
  refine ⟨?_, ?_, ?_⟩
  · show zL (sL h b k v) b k = _
    rw [zL_sL, up1_s]; exact h1
  · rw [show zI (sI (sI (sL h b k v) (b + 1) k o) (b + 2) k t) (b + 1) = zI (sI (sL h b k v) (b + 1) k o) (b + 1) from up1_n _ _ (by omega), zI_sI, up1_s]; exact h2
  · rw [zI_sI, up1_s]; exact h3
theorem Cw.w3 {b k : Nat} {h : AH} {v : Int64} {o t : Int32} : Cw b k h (sI (sI (sL h b k v) (b + 1) k o) (b + 2) k t) := (Cw.wL.tr Cw.wI1).tr Cw.wI2
theorem Sn.kp {S : Nat → Prop} {h h' : AH} {f : Nat → Nat} (w : Wf h) (x : Kp S h h') (hS : ∀ a, 5 ≤ a → a ≤ 23 → ¬ S a) (hn : Sn h f) : Sn h' f := by
  obtain ⟨n1, n2, n3, n4, n5, n6⟩ := hn
  have s5 := x.2.2 5 (w.lt n1 (by decide)) (hS 5 (by omega) (by omega))
  have s6 := x.2.2 6 (w.lt n4 (by decide)) (hS 6 (by omega) (by omega))
  have s7 := x.2.2 7 (w.lt n5 (by decide)) (hS 7 (by omega) (by omega))
  refine ⟨x.kd w n1 (by decide), by rw [s5.2.2.2]; exact n2, by rw [s5.2.2.2]; exact n3, x.kd w n4 (by decide), x.kd w n5 (by decide), fun s hs => ?_⟩
  obtain ⟨c1, c2, c3, c4, c5⟩ := n6 s hs
  have s8 := x.2.2 (8 + s) (w.lt c2 (by decide)) (hS _ (by omega) (by omega))
  exact ⟨by rw [s7.2.2.2]; exact c1, x.kd w c2 (by decide), c3, by rw [s6.1]; exact c4, fun t ht => by rw [s8.1]; exact c5 t ht⟩
theorem GvR.kp {S : Nat → Prop} {h h' : AH} {gv : Nat → List Nat} (w : Wf h) (x : Kp S h h') (hS : ¬ S 24) (hg : GvR h gv) : GvR h' gv := by
  have s := x.2.2 24 (w.lt hg.1 (by decide)) hS
  exact ⟨x.kd w hg.1 (by decide), fun m hm => ⟨(hg.2 m hm).1, by rw [s.2.1]; exact (hg.2 m hm).2⟩⟩
theorem LxS.kp {S : Nat → Prop} {h h' : AH} {x b : Nat} (w : Wf h) (y : Kp S h h') (hS : ¬ S x) (hx : LxS h x b) : LxS h' x b ∧ zR h' x 0 = zR h x 0 := by
  obtain ⟨a1, a2, a3, a4, a5, a6, a7, a8, a9, a10, a11, a12, a13⟩ := hx
  have s := y.2.2 x (w.lt a1 (by decide)) hS
  refine ⟨⟨y.kd w a1 (by decide), ?_, ?_, ?_, ?_, ?_, ?_, y.kd w a8 (by decide), y.kd w a9 (by decide), y.kd w a10 (by decide), y.kd w a11 (by decide), a12, a13⟩, by rw [s.2.2.2]⟩
  all_goals (rw [s.2.2.2]; assumption)
theorem LxS.kh {h h' : AH} {x b : Nat} (hx : LxS h x b) (y : Kp (fun a => b ≤ a ∧ a ≤ b + 3) h h') : Kh h h' := by
  obtain ⟨a1, a2, a3, a4, a5, a6, a7, a8, a9, a10, a11, a12, a13⟩ := hx
  refine y.mono fun a _ ha => ?_
  have : a = b ∨ a = b + 1 ∨ a = b + 2 ∨ a = b + 3 := by omega
  rcases this with rfl | rfl | rfl | rfl
  · rw [a8]; unfold hk; decide
  · rw [a9]; unfold hk; decide
  · rw [a10]; unfold hk; decide
  · rw [a11]; unfold hk; decide
theorem Cw.k3 {b k : Nat} {h h' : AH} (y : Cw b k h h') : Kp (fun a => b ≤ a ∧ a ≤ b + 3) h h' := y.1.mono fun a _ ha => ⟨ha.1, by omega⟩
theorem bI_0 : bI 0 = -1 := rfl
theorem bI_s (n : Nat) : bI (n + 1) = nI n := nI_pred n
theorem nI_m1 {n : Nat} (h : n < 2 ^ 31) : ¬ nI n = -1 := fun e => by
  have := congrArg Int32.toInt e
  rw [nI_toInt h] at this
  simp at this
theorem e_cell {g : Gp} {l m : Nat} {h : AH} {Q : PQ} (hq : Q (.inl (some (vI (nI (l * 12 + m))))) h) : Ev g mX4_cell [vI (nI l), vI (nI m)] h Q := by
  refine nX4_cell ?_
  refine rX4_cell_0 ?_
  simp only [bX4_cell_0, run, Nat.reduceAdd, lg, st1, st2, lkill, lset, fvv, sfv, kind3, cat1, retI, retA, List.length_cons, List.length_nil, true_and, and_true, or_true, true_or, qX4_cell]
  rw [show (12 : Int32) = nI 12 from rfl, pk_mul, nI_add]
  exact hq
theorem e_hasWord {g : Gp} {x b l m : Nat} {w : List Nat} {h : AH} {Q : PQ} (hx : LxS h x b) (hw : Wok w) (hl : l < 10) (hm : m < 12) (hc : zL h b (l * 12 + m) = eC w) (hq : Q (.inl (some (vI (if w = [] then 0 else 1)))) h) : Ev g mX4_hasWord [vR x, vI (nI l), vI (nI m)] h Q := by
  obtain ⟨a1, a2, a3, a4, a5, a6, a7, a8, a9, a10, a11, a12, a13⟩ := hx
  refine nX4_hasWord ?_
  refine rX4_hasWord_0 ?_
  simp only [bX4_hasWord_0, run, Nat.reduceAdd, lg, st1, st2, lkill, lset, fvv, sfv, kind3, cat1, retI, retA, List.length_cons, List.length_nil, true_and, and_true, or_true, true_or, qX4_hasWord]
  refine ⟨a1, sX4_hasWord_6 (e_cell ?_)⟩
  simp only [cont, Option.toList, List.cons_append, List.nil_append]
  refine rX4_hasWord_9 ?_
  simp only [bX4_hasWord_9, run, Nat.reduceAdd, lg, st1, st2, lkill, lset, fvv, sfv, kind3, cat1, retI, retA, List.length_cons, List.length_nil, true_and, and_true, or_true, true_or, qX4_hasWord]
  rw [a4, a8, nI_clamp (by omega), hc]
  refine ⟨rfl, vp_in_nI (by omega) (by omega), fun h0 => ?_, fun h0 => ?_⟩
  · rw [if_pos ((eC_0 hw).mp ((lg_cmp_eq _ _).mp h0))] at hq
    refine rX4_hasWord_19 ?_
    simp only [bX4_hasWord_19, run, Nat.reduceAdd, lg, st1, st2, lkill, lset, fvv, sfv, kind3, cat1, retI, retA, List.length_cons, List.length_nil, true_and, and_true, or_true, true_or, qX4_hasWord]
    exact hq
  · rw [if_neg fun e => h0 ((lg_cmp_eq _ _).mpr ((eC_0 hw).mpr e))] at hq
    exact hq
theorem e_comesTo {g : Gp} {x l m t : Nat} {n : Ln} {h : AH} {Q : PQ} (hn : LnR h x n) (b1 : n.1 < 12) (b2 : n.2.2.1 < 10) (b3 : n.2.2.2 ≤ 8) (hl : l < 10) (hm : m < 12) (ht : t ≤ 8) (hq : Q (.inl (some (vI (if n.2.2.1 = l ∧ n.1 = m ∧ n.2.2.2 = t then 1 else 0)))) h) : Ev g mX5_comesTo [vR x, vI (nI l), vI (nI m), vI (nI t)] h Q := by
  obtain ⟨a1, a2, a3, a4, a5⟩ := hn
  refine nX5_comesTo ?_
  have no : ¬ (n.2.2.1 = l ∧ n.1 = m ∧ n.2.2.2 = t) → Ex g mX5_comesTo 28 [vR x, vI (nI l), vI (nI m), vI (nI t)] [] h (0, 0) Q := by
    intro h0
    rw [if_neg h0] at hq
    refine rX5_comesTo_28 ?_
    simp only [bX5_comesTo_28, run, Nat.reduceAdd, lg, st1, st2, lkill, lset, fvv, sfv, kind3, cat1, retI, retA, List.length_cons, List.length_nil, true_and, and_true, or_true, true_or, qX5_comesTo]
    exact hq
  refine rX5_comesTo_0 ?_
  simp only [bX5_comesTo_0, run, Nat.reduceAdd, lg, st1, st2, lkill, lset, fvv, sfv, kind3, cat1, retI, retA, List.length_cons, List.length_nil, true_and, and_true, or_true, true_or, qX5_comesTo]
  rw [a4, a2, a5]
  refine ⟨a1, bn_c (fun hc => no fun e => hc (by rw [e.1])) fun c1 => ⟨a1, bn_c (fun hc => no fun e => hc (by rw [e.2.1])) fun c2 => ⟨a1, bn_c (fun hc => no fun e => hc (by rw [e.2.2])) fun c3 => ?_⟩⟩⟩
  rw [if_pos ⟨(nI_eq (by omega) (by omega)).mp c1, (nI_eq (by omega) (by omega)).mp c2, (nI_eq (by omega) (by omega)).mp c3⟩] at hq
  exact hq
theorem e_inherit {g : Gp} {x b l m : Nat} {D : HD} {gv : Nat → List Nat} {T : Nat → Cell3} {h : AH} {Q : PQ} (hx : LxS h x b) (hh : HsR h (zR h x 0) D) (hD : hdOk D) (hg : GvR h gv) (hl : l < D.1) (hm : m < 12) (hT : ∀ k, k < l → CR h b (k * 12 + m) (T k))
    (hq : ∀ h', Cw b (l * 12 + m) h h' → CR h' b (l * 12 + m) (inh D gv T l m) → Q (.inl none) h') : Ev g mX4_inherit [vR x, vI (nI l), vI (nI m)] h Q := by
  obtain ⟨a1, a2, a3, a4, a5, a6, a7, a8, a9, a10, a11, a12, a13⟩ := hx
  obtain ⟨b1, ⟨e, xs, b2, b3, b4⟩, -⟩ := hh
  have hD1 := hD.2.1
  obtain ⟨c1, c2, -⟩ := b4 l hl
  refine nX4_inherit ?_
  refine rX4_inherit_0 ?_
  simp only [bX4_inherit_0, run, Nat.reduceAdd, lg, st1, st2, lkill, lset, fvv, sfv, kind3, cat1, retI, retA, List.length_cons, List.length_nil, true_and, and_true, or_true, true_or, qX4_inherit]
  refine sX4_inherit_2 (e_cell ?_)
  simp only [cont, Option.toList, List.cons_append, List.nil_append]
  refine rX4_inherit_5 ?_
  simp only [bX4_inherit_5, run, Nat.reduceAdd, lg, st1, st2, lkill, lset, fvv, sfv, kind3, cat1, retI, retA, List.length_cons, List.length_nil, true_and, and_true, or_true, true_or, qX4_inherit]
  refine ⟨a1, b1, sX4_inherit_14 b2.1 (l_get b2 (by omega) ?_)⟩
  simp only [cont, Option.toList, List.cons_append, List.nil_append]
  have hk : l * 12 + m < 120 := by omega
  have kk : (nI (l * 12 + m)).toNatClampNeg = l * 12 + m := nI_clamp (by omega)
  have km : (nI m).toNatClampNeg = m := nI_clamp (by omega)
  have vk := vp_in_nI hk (by omega : 120 < 2 ^ 31)
  have fin : ∀ v o, v = eC (inh D gv T l m).1 → o = bI (inh D gv T l m).2.1 → Q (.inl none) (sI (sI (sL h b (l * 12 + m) v) (b + 1) (l * 12 + m) o) (b + 2) (l * 12 + m) 0) := by
    intro v o h1 h2
    refine hq _ Cw.w3 (CR.w3 h1 h2 ?_)
    unfold inh
    split <;> rfl
  by_cases h0 : l = 0
  · subst h0
    refine rX4_inherit_17 ?_
    simp only [bX4_inherit_17, run, Nat.reduceAdd, lg, st1, st2, lkill, lset, fvv, sfv, kind3, cat1, retI, retA, List.length_cons, List.length_nil, true_and, and_true, or_true, true_or, qX4_inherit, c1, c2, show pc D.2.1 0 = 0 from rfl, bI_0, kL, kI, kD, kR, rL, rI, rD, iL, iD, iR, lI, lD, lR, not_true_eq_false, not_false_eq_true, false_implies, true_and, and_true, tti, a1, a3, a4, a5, a6, a8, a9, a10, hg.1, kk, km]
    refine ⟨vp_in_nI hm (by omega), vk, vk, vk, ?_⟩
    exact fin _ _ (hg.2 m hm).2 rfl
  · have ep : pc D.2.1 l = D.2.1 l + 1 := if_neg h0
    have hp := hD.2.2.1 l (by omega) hl
    have hk2 : D.2.1 l * 12 + m < 120 := by omega
    have kk2 : (nI (D.2.1 l * 12 + m)).toNatClampNeg = D.2.1 l * 12 + m := nI_clamp (by omega)
    have vk2 := vp_in_nI hk2 (by omega : 120 < 2 ^ 31)
    have hm1 : nI (D.2.1 l) = -1 ↔ False := ⟨nI_m1 (by omega), False.elim⟩
    have hT2 := hT _ hp
    have e1 : inh D gv T l m = ((T (D.2.1 l)).1, (T (D.2.1 l)).2.1, 0) := if_neg h0
    refine rX4_inherit_17 ?_
    simp only [bX4_inherit_17, run, Nat.reduceAdd, lg, st1, st2, lkill, lset, fvv, sfv, kind3, cat1, retI, retA, List.length_cons, List.length_nil, true_and, and_true, or_true, true_or, qX4_inherit, c1, c2, ep, bI_s, hm1, kL, kI, kD, kR, rL, rI, rD, iL, iD, iR, lI, lD, lR, not_true_eq_false, not_false_eq_true, false_implies, true_and, and_true, tti, a1, a3, a4, a5, a6, a8, a9, a10, kk, km]
    refine rX4_inherit_45 ?_
    simp only [bX4_inherit_45, run, Nat.reduceAdd, lg, st1, st2, lkill, lset, fvv, sfv, kind3, cat1, retI, retA, List.length_cons, List.length_nil, true_and, and_true, or_true, true_or, qX4_inherit, kL, kI, kD, kR, rL, rI, rD, iL, iD, iR, lI, lD, lR, not_true_eq_false, not_false_eq_true, false_implies, true_and, and_true, tti, a1, a4]
    refine sX4_inherit_52 (e_cell ?_)
    simp only [cont, Option.toList, List.cons_append, List.nil_append]
    refine rX4_inherit_55 ?_
    simp only [bX4_inherit_55, run, Nat.reduceAdd, lg, st1, st2, lkill, lset, fvv, sfv, kind3, cat1, retI, retA, List.length_cons, List.length_nil, true_and, and_true, or_true, true_or, qX4_inherit, hm1, kL, kI, kD, kR, rL, rI, rD, iL, iD, iR, lI, lD, lR, not_true_eq_false, not_false_eq_true, false_implies, true_and, and_true, tti, a1, a3, a4, a5, a6, a8, a9, a10, kk, kk2]
    refine ⟨vk2, vk, ?_⟩
    refine rX4_inherit_72 ?_
    simp only [bX4_inherit_72, run, Nat.reduceAdd, lg, st1, st2, lkill, lset, fvv, sfv, kind3, cat1, retI, retA, List.length_cons, List.length_nil, true_and, and_true, or_true, true_or, qX4_inherit, kL, kI, kD, kR, rL, rI, rD, iL, iD, iR, lI, lD, lR, not_true_eq_false, not_false_eq_true, false_implies, true_and, and_true, tti, a1, a5]
    refine sX4_inherit_79 (e_cell ?_)
    simp only [cont, Option.toList, List.cons_append, List.nil_append]
    refine rX4_inherit_82 ?_
    simp only [bX4_inherit_82, run, Nat.reduceAdd, lg, st1, st2, lkill, lset, fvv, sfv, kind3, cat1, retI, retA, List.length_cons, List.length_nil, true_and, and_true, or_true, true_or, qX4_inherit, kL, kI, kD, kR, rL, rI, rD, iL, iD, iR, lI, lD, lR, not_true_eq_false, not_false_eq_true, false_implies, true_and, and_true, tti, a1, a3, a4, a5, a6, a8, a9, a10, kk, kk2]
    refine ⟨vk2, vk, vk, ?_⟩
    exact fin _ _ (by rw [e1]; exact hT2.1) (by rw [e1]; exact hT2.2.1)
