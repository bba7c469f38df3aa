/-! ===== a lexicon ===== -/
/-- the lexicon at x, its rows from b on -/
def LxS (h : AH) (x b : Nat) : Prop := zK h x = (1, 5) ∧ zR h x 1 = 5 ∧ zR h x 2 = 24 ∧ zR h x 3 = b ∧ zR h x 4 = b + 1 ∧ zR h x 5 = b + 2 ∧ zR h x 6 = b + 3 ∧ zK h b = (3, 120) ∧ zK h (b + 1) = (2, 120) ∧ zK h (b + 2) = (2, 120) ∧ zK h (b + 3) = (4, 12) ∧ x < b ∧ 25 ≤ b
def GvR (h : AH) (gv : Nat → List Nat) : Prop := zK h 24 = (3, 12) ∧ ∀ m, m < 12 → Wok (gv m) ∧ zL h 24 m = eC (gv m)
def CR (h : AH) (b k : Nat) (c : Cell3) : Prop := zL h b k = eC c.1 ∧ zI h (b + 1) k = bI c.2.1 ∧ zI h (b + 2) k = nI c.2.2
def Cw (b k : Nat) (h h' : AH) : Prop := Kp (fun a => b ≤ a ∧ a ≤ b + 2) h h' ∧ ∀ j, j ≠ k → zL h' b j = zL h b j ∧ zI h' (b + 1) j = zI h (b + 1) j ∧ zI h' (b + 2) j = zI h (b + 2) j
theorem Cw.rf {b k : Nat} {h : AH} : Cw b k h h := ⟨Kp.rf, fun _ _ => ⟨rfl, rfl, rfl⟩⟩
theorem Cw.tr {b k : Nat} {h1 h2 h3 : AH} (x : Cw b k h1 h2) (y : Cw b k h2 h3) : Cw b k h1 h3 :=
  ⟨x.1.tr y.1, fun j hj => ⟨(y.2 j hj).1.trans (x.2 j hj).1, (y.2 j hj).2.1.trans (x.2 j hj).2.1, (y.2 j hj).2.2.trans (x.2 j hj).2.2⟩⟩
theorem Cw.wL {b k : Nat} {h : AH} {v : Int64} : Cw b k h (sL h b k v) :=
  ⟨Kp.sL ⟨Nat.le_refl _, by omega⟩, fun j hj => ⟨by rw [zL_sL]; exact up1_n _ _ hj, rfl, rfl⟩⟩
theorem Cw.wI1 {b k : Nat} {h : AH} {v : Int32} : Cw b k h (sI h (b + 1) k v) :=
  ⟨Kp.sI ⟨by omega, by omega⟩, fun j hj => ⟨rfl, by rw [zI_sI]; exact up1_n _ _ hj, congrFun (up1_n (zI h) _ (by omega)) j⟩⟩
theorem Cw.wI2 {b k : Nat} {h : AH} {v : Int32} : Cw b k h (sI h (b + 2) k v) :=
  ⟨Kp.sI ⟨by omega, by omega⟩, fun j hj => ⟨rfl, congrFun (up1_n (zI h) _ (by omega)) j, by rw [zI_sI]; exact up1_n _ _ hj⟩⟩
theorem CR.cw {b k j : Nat} {h h' : AH} {c : Cell3} (x : Cw b k h h') (hj : j ≠ k) (hc : CR h b j c) : CR h' b j c :=
  ⟨(x.2 j hj).1.trans hc.1, (x.2 j hj).2.1.trans hc.2.1, (x.2 j hj).2.2.trans hc.2.2⟩
theorem CR.w3 {b k : Nat} {h : AH} {c : Cell3} {v : Int64} {o t : Int32} (h1 : v = eC c.1) (h2 : o = bI c.2.1) (h3 : t = nI c.2.2) : CR (sI (sI (sL h b k v) (b + 1) k o) (b + 2) k t) b k c := by
  refine ⟨?_, ?_, ?_⟩
  · show zL (sL h b k v) b k = _
    rw [zL_sL, up1_s]; exact h1
  · rw [show zI (sI (sI (sL h b k v) (b + 1) k o) (b + 2) k t) (b + 1) = zI (sI (sL h b k v) (b + 1) k o) (b + 1) from up1_n _ _ (by omega), zI_sI, up1_s]; exact h2
  · rw [zI_sI, up1_s]; exact h3
theorem Cw.w3 {b k : Nat} {h : AH} {v : Int64} {o t : Int32} : Cw b k h (sI (sI (sL h b k v) (b + 1) k o) (b + 2) k t) := (Cw.wL.tr Cw.wI1).tr Cw.wI2
theorem Sn.kp {S : Nat → Prop} {h h' : AH} {f : Nat → Nat} (w : Wf h) (x : Kp S h h') (hS : ∀ a, 5 ≤ a → a ≤ 23 → ¬ S a) (hn : Sn h f) : Sn h' f := by
  obtain ⟨n1, n2, n3, n4, n5, n6⟩ := hn
  have s5 := x.2.2 5 (w.lt n1 (by decide)) (hS 5 (by omega) (by omega))
  have s6 := x.2.2 6 (w.lt n4 (by decide)) (hS 6 (by omega) (by omega))
  have s7 := x.2.2 7 (w.lt n5 (by decide)) (hS 7 (by omega) (by omega))
  refine ⟨x.kd w n1 (by decide), by rw [s5.2.2.2]; exact n2, by rw [s5.2.2.2]; exact n3, x.kd w n4 (by decide), x.kd w n5 (by decide), fun s hs => ?_⟩
  obtain ⟨c1, c2, c3, c4, c5⟩ := n6 s hs
  have s8 := x.2.2 (8 + s) (w.lt c2 (by decide)) (hS _ (by omega) (by omega))
  exact ⟨by rw [s7.2.2.2]; exact c1, x.kd w c2 (by decide), c3, by rw [s6.1]; exact c4, fun t ht => by rw [s8.1]; exact c5 t ht⟩
theorem GvR.kp {S : Nat → Prop} {h h' : AH} {gv : Nat → List Nat} (w : Wf h) (x : Kp S h h') (hS : ¬ S 24) (hg : GvR h gv) : GvR h' gv := by
  have s := x.2.2 24 (w.lt hg.1 (by decide)) hS
  exact ⟨x.kd w hg.1 (by decide), fun m hm => ⟨(hg.2 m hm).1, by rw [s.2.1]; exact (hg.2 m hm).2⟩⟩
theorem LxS.kp {S : Nat → Prop} {h h' : AH} {x b : Nat} (w : Wf h) (y : Kp S h h') (hS : ¬ S x) (hx : LxS h x b) : LxS h' x b ∧ zR h' x 0 = zR h x 0 := by
  obtain ⟨a1, a2, a3, a4, a5, a6, a7, a8, a9, a10, a11, a12, a13⟩ := hx
  have s := y.2.2 x (w.lt a1 (by decide)) hS
  refine ⟨⟨y.kd w a1 (by decide), ?_, ?_, ?_, ?_, ?_, ?_, y.kd w a8 (by decide), y.kd w a9 (by decide), y.kd w a10 (by decide), y.kd w a11 (by decide), a12, a13⟩, by rw [s.2.2.2]⟩
  all_goals (rw [s.2.2.2]; assumption)
theorem LxS.kh {h h' : AH} {x b : Nat} (hx : LxS h x b) (y : Kp (fun a => b ≤ a ∧ a ≤ b + 3) h h') : Kh h h' := by
  obtain ⟨a1, a2, a3, a4, a5, a6, a7, a8, a9, a10, a11, a12, a13⟩ := hx
  refine y.mono fun a _ ha => ?_
  have : a = b ∨ a = b + 1 ∨ a = b + 2 ∨ a = b + 3 := by omega
  rcases this with rfl | rfl | rfl | rfl
  · rw [a8]; unfold hk; decide
  · rw [a9]; unfold hk; decide
  · rw [a10]; unfold hk; decide
  · rw [a11]; unfold hk; decide
theorem Cw.k3 {b k : Nat} {h h' : AH} (y : Cw b k h h') : Kp (fun a => b ≤ a ∧ a ≤ b + 3) h h' := y.1.mono fun a _ ha => ⟨ha.1, by omega⟩
theorem bI_0 : bI 0 = -1 := rfl
theorem bI_s (n : Nat) : bI (n + 1) = nI n := nI_pred n
theorem nI_m1 {n : Nat} (h : n < 2 ^ 31) : ¬ nI n = -1 := fun e => by
  have := congrArg Int32.toInt e
  rw [nI_toInt h] at this
  simp at this
theorem e_cell {g : Gp} {l m : Nat} {h : AH} {Q : PQ} (hq : Q (.inl (some (vI (nI (l * 12 + m))))) h) : Ev g mX4_cell [vI (nI l), vI (nI m)] h Q := by
  refine nX4_cell ?_
  refine rX4_cell_0 ?_
  simp only [bX4_cell_0, run, Nat.reduceAdd, lg, st1, st2, lkill, lset, fvv, sfv, kind3, cat1, retI, retA, List.length_cons, List.length_nil, true_and, and_true, or_true, true_or, qX4_cell]
  rw [show (12 : Int32) = nI 12 from rfl, pk_mul, nI_add]
  exact hq
theorem e_hasWord {g : Gp} {x b l m : Nat} {w : List Nat} {h : AH} {Q : PQ} (hx : LxS h x b) (hw : Wok w) (hl : l < 10) (hm : m < 12) (hc : zL h b (l * 12 + m) = eC w) (hq : Q (.inl (some (vI (if w = [] then 0 else 1)))) h) : Ev g mX4_hasWord [vR x, vI (nI l), vI (nI m)] h Q := by
  obtain ⟨a1, a2, a3, a4, a5, a6, a7, a8, a9, a10, a11, a12, a13⟩ := hx
  refine nX4_hasWord ?_
  refine rX4_hasWord_0 ?_
  simp only [bX4_hasWord_0, run, Nat.reduceAdd, lg, st1, st2, lkill, lset, fvv, sfv, kind3, cat1, retI, retA, List.length_cons, List.length_nil, true_and, and_true, or_true, true_or, qX4_hasWord]
  refine ⟨a1, sX4_hasWord_6 (e_cell ?_)⟩
  simp only [cont, Option.toList, List.cons_append, List.nil_append]
  refine rX4_hasWord_9 ?_
  simp only [bX4_hasWord_9, run, Nat.reduceAdd, lg, st1, st2, lkill, lset, fvv, sfv, kind3, cat1, retI, retA, List.length_cons, List.length_nil, true_and, and_true, or_true, true_or, qX4_hasWord]
  rw [a4, a8, nI_clamp (by omega), hc]
  refine ⟨rfl, vp_in_nI (by omega) (by omega), fun h0 => ?_, fun h0 => ?_⟩
  · rw [if_pos ((eC_0 hw).mp ((lg_cmp_eq _ _).mp h0))] at hq
    refine rX4_hasWord_19 ?_
    simp only [bX4_hasWord_19, run, Nat.reduceAdd, lg, st1, st2, lkill, lset, fvv, sfv, kind3, cat1, retI, retA, List.length_cons, List.length_nil, true_and, and_true, or_true, true_or, qX4_hasWord]
    exact hq
  · rw [if_neg fun e => h0 ((lg_cmp_eq _ _).mpr ((eC_0 hw).mpr e))] at hq
    exact hq
theorem e_comesTo {g : Gp} {x l m t : Nat} {n : Ln} {h : AH} {Q : PQ} (hn : LnR h x n) (b1 : n.1 < 12) (b2 : n.2.2.1 < 10) (b3 : n.2.2.2 ≤ 8) (hl : l < 10) (hm : m < 12) (ht : t ≤ 8) (hq : Q (.inl (some (vI (if n.2.2.1 = l ∧ n.1 = m ∧ n.2.2.2 = t then 1 else 0)))) h) : Ev g mX5_comesTo [vR x, vI (nI l), vI (nI m), vI (nI t)] h Q := by
  obtain ⟨a1, a2, a3, a4, a5⟩ := hn
  refine nX5_comesTo ?_
  have no : ¬ (n.2.2.1 = l ∧ n.1 = m ∧ n.2.2.2 = t) → Ex g mX5_comesTo 28 [vR x, vI (nI l), vI (nI m), vI (nI t)] [] h (0, 0) Q := by
    intro h0
    rw [if_neg h0] at hq
    refine rX5_comesTo_28 ?_
    simp only [bX5_comesTo_28, run, Nat.reduceAdd, lg, st1, st2, lkill, lset, fvv, sfv, kind3, cat1, retI, retA, List.length_cons, List.length_nil, true_and, and_true, or_true, true_or, qX5_comesTo]
    exact hq
  refine rX5_comesTo_0 ?_
  simp only [bX5_comesTo_0, run, Nat.reduceAdd, lg, st1, st2, lkill, lset, fvv, sfv, kind3, cat1, retI, retA, List.length_cons, List.length_nil, true_and, and_true, or_true, true_or, qX5_comesTo]
  rw [a4, a2, a5]
  refine ⟨a1, bn_c (fun hc => no fun e => hc (by rw [e.1])) fun c1 => ⟨a1, bn_c (fun hc => no fun e => hc (by rw [e.2.1])) fun c2 => ⟨a1, bn_c (fun hc => no fun e => hc (by rw [e.2.2])) fun c3 => ?_⟩⟩⟩
  rw [if_pos ⟨(nI_eq (by omega) (by omega)).mp c1, (nI_eq (by omega) (by omega)).mp c2, (nI_eq (by omega) (by omega)).mp c3⟩] at hq
  exact hq
theorem e_inherit {g : Gp} {x b l m : Nat} {D : HD} {gv : Nat → List Nat} {T : Nat → Cell3} {h : AH} {Q : PQ} (hx : LxS h x b) (hh : HsR h (zR h x 0) D) (hD : hdOk D) (hg : GvR h gv) (hl : l < D.1) (hm : m < 12) (hT : ∀ k, k < l → CR h b (k * 12 + m) (T k))
    (hq : ∀ h', Cw b (l * 12 + m) h h' → CR h' b (l * 12 + m) (inh D gv T l m) → Q (.inl none) h') : Ev g mX4_inherit [vR x, vI (nI l), vI (nI m)] h Q := by
  obtain ⟨a1, a2, a3, a4, a5, a6, a7, a8, a9, a10, a11, a12, a13⟩ := hx
  obtain ⟨b1, ⟨e, xs, b2, b3, b4⟩, -⟩ := hh
  have hD1 := hD.2.1
  obtain ⟨c1, c2, -⟩ := b4 l hl
  refine nX4_inherit ?_
  refine rX4_inherit_0 ?_
  simp only [bX4_inherit_0, run, Nat.reduceAdd, lg, st1, st2, lkill, lset, fvv, sfv, kind3, cat1, retI, retA, List.length_cons, List.length_nil, true_and, and_true, or_true, true_or, qX4_inherit]
  refine sX4_inherit_2 (e_cell ?_)
  simp only [cont, Option.toList, List.cons_append, List.nil_append]
  refine rX4_inherit_5 ?_
  simp only [bX4_inherit_5, run, Nat.reduceAdd, lg, st1, st2, lkill, lset, fvv, sfv, kind3, cat1, retI, retA, List.length_cons, List.length_nil, true_and, and_true, or_true, true_or, qX4_inherit]
  refine ⟨a1, b1, sX4_inherit_14 b2.1 (l_get b2 (by omega) ?_)⟩
  simp only [cont, Option.toList, List.cons_append, List.nil_append]
  have hk : l * 12 + m < 120 := by omega
  have kk : (nI (l * 12 + m)).toNatClampNeg = l * 12 + m := nI_clamp (by omega)
  have km : (nI m).toNatClampNeg = m := nI_clamp (by omega)
  have vk := vp_in_nI hk (by omega : 120 < 2 ^ 31)
  have fin : ∀ v o, v = eC (inh D gv T l m).1 → o = bI (inh D gv T l m).2.1 → Q (.inl none) (sI (sI (sL h b (l * 12 + m) v) (b + 1) (l * 12 + m) o) (b + 2) (l * 12 + m) 0) := by
    intro v o h1 h2
    refine hq _ Cw.w3 (CR.w3 h1 h2 ?_)
    unfold inh
    split <;> rfl
  by_cases h0 : l = 0
  · subst h0
    refine rX4_inherit_17 ?_
    simp only [bX4_inherit_17, run, Nat.reduceAdd, lg, st1, st2, lkill, lset, fvv, sfv, kind3, cat1, retI, retA, List.length_cons, List.length_nil, true_and, and_true, or_true, true_or, qX4_inherit, c1, c2, show pc D.2.1 0 = 0 from rfl, bI_0, kL, kI, kD, kR, rL, rI, rD, iL, iD, iR, lI, lD, lR, not_true_eq_false, not_false_eq_true, false_implies, true_and, and_true, tti, a1, a3, a4, a5, a6, a8, a9, a10, hg.1, kk, km]
    refine ⟨vp_in_nI hm (by omega), vk, vk, vk, ?_⟩
    exact fin _ _ (hg.2 m hm).2 rfl
  · have ep : pc D.2.1 l = D.2.1 l + 1 := if_neg h0
    have hp := hD.2.2.1 l (by omega) hl
    have hk2 : D.2.1 l * 12 + m < 120 := by omega
    have kk2 : (nI (D.2.1 l * 12 + m)).toNatClampNeg = D.2.1 l * 12 + m := nI_clamp (by omega)
    have vk2 := vp_in_nI hk2 (by omega : 120 < 2 ^ 31)
    have hm1 : nI (D.2.1 l) = -1 ↔ False := ⟨nI_m1 (by omega), False.elim⟩
    have hT2 := hT _ hp
    have e1 : inh D gv T l m = ((T (D.2.1 l)).1, (T (D.2.1 l)).2.1, 0) := if_neg h0
    refine rX4_inherit_17 ?_
    simp only [bX4_inherit_17, run, Nat.reduceAdd, lg, st1, st2, lkill, lset, fvv, sfv, kind3, cat1, retI, retA, List.length_cons, List.length_nil, true_and, and_true, or_true, true_or, qX4_inherit, c1, c2, ep, bI_s, hm1, kL, kI, kD, kR, rL, rI, rD, iL, iD, iR, lI, lD, lR, not_true_eq_false, not_false_eq_true, false_implies, true_and, and_true, tti, a1, a3, a4, a5, a6, a8, a9, a10, kk, km]
    refine rX4_inherit_45 ?_
    simp only [bX4_inherit_45, run, Nat.reduceAdd, lg, st1, st2, lkill, lset, fvv, sfv, kind3, cat1, retI, retA, List.length_cons, List.length_nil, true_and, and_true, or_true, true_or, qX4_inherit, kL, kI, kD, kR, rL, rI, rD, iL, iD, iR, lI, lD, lR, not_true_eq_false, not_false_eq_true, false_implies, true_and, and_true, tti, a1, a4]
    refine sX4_inherit_52 (e_cell ?_)
    simp only [cont, Option.toList, List.cons_append, List.nil_append]
    refine rX4_inherit_55 ?_
    simp only [bX4_inherit_55, run, Nat.reduceAdd, lg, st1, st2, lkill, lset, fvv, sfv, kind3, cat1, retI, retA, List.length_cons, List.length_nil, true_and, and_true, or_true, true_or, qX4_inherit, hm1, kL, kI, kD, kR, rL, rI, rD, iL, iD, iR, lI, lD, lR, not_true_eq_false, not_false_eq_true, false_implies, true_and, and_true, tti, a1, a3, a4, a5, a6, a8, a9, a10, kk, kk2]
    refine ⟨vk2, vk, ?_⟩
    refine rX4_inherit_72 ?_
    simp only [bX4_inherit_72, run, Nat.reduceAdd, lg, st1, st2, lkill, lset, fvv, sfv, kind3, cat1, retI, retA, List.length_cons, List.length_nil, true_and, and_true, or_true, true_or, qX4_inherit, kL, kI, kD, kR, rL, rI, rD, iL, iD, iR, lI, lD, lR, not_true_eq_false, not_false_eq_true, false_implies, true_and, and_true, tti, a1, a5]
    refine sX4_inherit_79 (e_cell ?_)
    simp only [cont, Option.toList, List.cons_append, List.nil_append]
    refine rX4_inherit_82 ?_
    simp only [bX4_inherit_82, run, Nat.reduceAdd, lg, st1, st2, lkill, lset, fvv, sfv, kind3, cat1, retI, retA, List.length_cons, List.length_nil, true_and, and_true, or_true, true_or, qX4_inherit, kL, kI, kD, kR, rL, rI, rD, iL, iD, iR, lI, lD, lR, not_true_eq_false, not_false_eq_true, false_implies, true_and, and_true, tti, a1, a3, a4, a5, a6, a8, a9, a10, kk, kk2]
    refine ⟨vk2, vk, vk, ?_⟩
    exact fin _ _ (by rw [e1]; exact hT2.1) (by rw [e1]; exact hT2.2.1)
theorem e_borrow {g : Gp} {x b l m t : Nat} {D : HD} {T : Nat → Cell3} {c : Cell3} {h : AH} {Q : PQ} (hx : LxS h x b) (hh : HsR h (zR h x 0) D) (hD : hdOk D) (hl : l < D.1) (hm : m < 12) (ht : t ≤ 8) (hT : ∀ k, k < l → CR h b (k * 12 + m) (T k)) (hTw : ∀ k, k < l → Wok (T k).1) (hc : CR h b (l * 12 + m) c)
    (hq : ∀ h', Cw b (l * 12 + m) h h' → CR h' b (l * 12 + m) (brw D.2.2.2 T l m t D.2.2.2.length c) → Q (.inl none) h') : Ev g mX4_borrow [vR x, vI (nI l), vI (nI m), vI (nI t)] h Q := by
  have hD1 := hD.2.1
  have hD5 := hD.2.2.2.2.1
  refine nX4_borrow ?_
  refine Ex.wf (fun w => ?_)
  have hk : l * 12 + m < 120 := by omega
  have kk : (nI (l * 12 + m)).toNatClampNeg = l * 12 + m := nI_clamp (by omega)
  have vk := vp_in_nI hk (by omega : 120 < 2 ^ 31)
  have lp : ∀ d n h1, n + d = D.2.2.2.length → Cw b (l * 12 + m) h h1 → CR h1 b (l * 12 + m) (brw D.2.2.2 T l m t n c) → ∀ y : AV, Ex g mX4_borrow 10 [vR x, vI (nI l), vI (nI m), vI (nI t), vI (nI (l * 12 + m)), vI (nI n), y] [] h1 (0, 0) Q := by
    intro d
    induction d with
    | zero =>
      intro n h1 hn cw cr y
      have hx0 := hx
      obtain ⟨hx1, ex⟩ := hx0.kp w cw.1 (show ¬ (b ≤ x ∧ x ≤ b + 2) from fun q => by have := hx.2.2.2.2.2.2.2.2.2.2.2.1; omega)
      obtain ⟨a1, a2, a3, a4, a5, a6, a7, a8, a9, a10, a11, a12, a13⟩ := hx1
      have hh1 := hh.kh w (hx.kh cw.k3)
      rw [← ex] at hh1
      obtain ⟨b1, -, ⟨e, zs, b2, b3, b4⟩⟩ := hh1
      refine rX4_borrow_10 ?_
      simp only [bX4_borrow_10, run, Nat.reduceAdd, lg, st1, st2, lkill, lset, fvv, sfv, kind3, cat1, retI, retA, List.length_cons, List.length_nil, true_and, and_true, or_true, true_or, qX4_borrow, a1, b1, not_true_eq_false, not_false_eq_true, false_implies, true_and, and_true, tti]
      refine sX4_borrow_19 b2.1 (l_size b2 ?_)
      simp only [cont, Option.toList, List.cons_append, List.nil_append]
      have e9 : n = D.2.2.2.length := by omega
      subst e9
      refine rX4_borrow_22 ?_
      simp only [bX4_borrow_22, run, Nat.reduceAdd, lg, st1, st2, lkill, lset, fvv, sfv, kind3, cat1, retI, retA, List.length_cons, List.length_nil, true_and, and_true, or_true, true_or, qX4_borrow]
      refine br_t (by rw [b3]; exact nI_le (Nat.le_refl _) (by omega)) ?_
      refine rX4_borrow_110 ?_
      simp only [bX4_borrow_110, run, Nat.reduceAdd, lg, st1, st2, lkill, lset, fvv, sfv, kind3, cat1, retI, retA, List.length_cons, List.length_nil, true_and, and_true, or_true, true_or, qX4_borrow]
      exact hq _ cw cr
    | succ d ih =>
      intro n h1 hn cw cr y
      have hx0 := hx
      obtain ⟨hx1, ex⟩ := hx0.kp w cw.1 (show ¬ (b ≤ x ∧ x ≤ b + 2) from fun q => by have := hx.2.2.2.2.2.2.2.2.2.2.2.1; omega)
      have hx2 := hx1
      obtain ⟨a1, a2, a3, a4, a5, a6, a7, a8, a9, a10, a11, a12, a13⟩ := hx1
      have hh1 := hh.kh w (hx.kh cw.k3)
      rw [← ex] at hh1
      obtain ⟨b1, -, ⟨e, zs, b2, b3, b4⟩⟩ := hh1
      have hno := hD.2.2.2.2.2 n (by omega)
      have hz := b4 n (by omega)
      generalize hne : D.2.2.2.getD n w0 = N at hno hz
      refine rX4_borrow_10 ?_
      simp only [bX4_borrow_10, run, Nat.reduceAdd, lg, st1, st2, lkill, lset, fvv, sfv, kind3, cat1, retI, retA, List.length_cons, List.length_nil, true_and, and_true, or_true, true_or, qX4_borrow, a1, b1, not_true_eq_false, not_false_eq_true, false_implies, true_and, and_true, tti]
      refine sX4_borrow_19 b2.1 (l_size b2 ?_)
      simp only [cont, Option.toList, List.cons_append, List.nil_append]
      have nle : nI D.2.2.2.length ≤ nI n ↔ False := ⟨nI_ge (by omega) (by omega), False.elim⟩
      refine rX4_borrow_22 ?_
      simp only [bX4_borrow_22, run, Nat.reduceAdd, lg, st1, st2, lkill, lset, fvv, sfv, kind3, cat1, retI, retA, List.length_cons, List.length_nil, true_and, and_true, or_true, true_or, qX4_borrow, b3, nle, a1, b1, not_true_eq_false, not_false_eq_true, false_implies, true_and, and_true, tti]
      refine sX4_borrow_34 b2.1 (l_get b2 (by omega) ?_)
      simp only [cont, Option.toList, List.cons_append, List.nil_append]
      refine rX4_borrow_37 ?_
      simp only [bX4_borrow_37, run, Nat.reduceAdd, lg, st1, st2, lkill, lset, fvv, sfv, kind3, cat1, retI, retA, List.length_cons, List.length_nil, true_and, and_true, or_true, true_or, qX4_borrow, hz.1, not_true_eq_false, not_false_eq_true, false_implies, true_and, and_true, tti]
      refine sX4_borrow_47 hz.1 (e_comesTo hz hno.1 (by omega) hno.2.2.2 (by omega) hm ht ?_)
      simp only [cont, Option.toList, List.cons_append, List.nil_append]
      have skip : ¬ ((N.2.2.1 = l ∧ N.1 = m ∧ N.2.2.2 = t) ∧ ¬ (T N.2.1).1 = []) → Ex g mX4_borrow 104 [vR x, vI (nI l), vI (nI m), vI (nI t), vI (nI (l * 12 + m)), vI (nI n), vR (zs.getD n 0)] [] h1 (0, 0) Q := by
        intro hs
        refine rX4_borrow_104 ?_
        simp only [bX4_borrow_104, run, Nat.reduceAdd, lg, st1, st2, lkill, lset, fvv, sfv, kind3, cat1, retI, retA, List.length_cons, List.length_nil, true_and, and_true, or_true, true_or, qX4_borrow]
        rw [nI_1]
        refine ih (n + 1) h1 (by omega) cw ?_ _
        rw [brw, hne, if_neg hs]
        exact cr
      by_cases hco : N.2.2.1 = l ∧ N.1 = m ∧ N.2.2.2 = t
      · have hf : N.2.1 < l := by omega
        have hct := (hT _ hf).cw cw (j := N.2.1 * 12 + m) (by omega)
        refine rX4_borrow_50 ?_
        simp only [bX4_borrow_50, run, Nat.reduceAdd, lg, st1, st2, lkill, lset, fvv, sfv, kind3, cat1, retI, retA, List.length_cons, List.length_nil, true_and, and_true, or_true, true_or, qX4_borrow, if_pos hco, show ¬ (1 : Int32) = 0 by decide, a1, hz.1, hz.2.2.1, not_true_eq_false, not_false_eq_true, false_implies, true_and, and_true, tti]
        refine sX4_borrow_60 a1 (e_hasWord hx2 (hTw _ hf) (by omega) hm hct.1 ?_)
        simp only [cont, Option.toList, List.cons_append, List.nil_append]
        by_cases hem : (T N.2.1).1 = []
        · refine rX4_borrow_63 ?_
          simp only [bX4_borrow_63, run, Nat.reduceAdd, lg, st1, st2, lkill, lset, fvv, sfv, kind3, cat1, retI, retA, List.length_cons, List.length_nil, true_and, and_true, or_true, true_or, qX4_borrow, if_pos hem, show ((0 : Int32) = 0) = True by decide, not_true_eq_false, not_false_eq_true, false_implies, true_and, and_true, tti]
          exact skip fun q => q.2 hem
        · refine rX4_borrow_63 ?_
          simp only [bX4_borrow_63, run, Nat.reduceAdd, lg, st1, st2, lkill, lset, fvv, sfv, kind3, cat1, retI, retA, List.length_cons, List.length_nil, true_and, and_true, or_true, true_or, qX4_borrow, if_neg hem, show ¬ (1 : Int32) = 0 by decide, a1, a4, hz.1, hz.2.2.1, not_true_eq_false, not_false_eq_true, false_implies, true_and, and_true, tti]
          refine sX4_borrow_82 (e_cell ?_)
          simp only [cont, Option.toList, List.cons_append, List.nil_append]
          have hk2 : N.2.1 * 12 + m < 120 := by omega
          have kk2 : (nI (N.2.1 * 12 + m)).toNatClampNeg = N.2.1 * 12 + m := nI_clamp (by omega)
          have vk2 := vp_in_nI hk2 (by omega : 120 < 2 ^ 31)
          refine rX4_borrow_85 ?_
          simp only [bX4_borrow_85, run, Nat.reduceAdd, lg, st1, st2, lkill, lset, fvv, sfv, kind3, cat1, retI, retA, List.length_cons, List.length_nil, true_and, and_true, or_true, true_or, qX4_borrow, kL, kI, kD, kR, rL, rI, rD, iL, iD, iR, lI, lD, lR, not_true_eq_false, not_false_eq_true, false_implies, true_and, and_true, tti, a1, a4, a5, a6, a8, a9, a10, kk, kk2]
          rw [nI_1]
          refine ⟨vk2, vk, vk, vk, ih (n + 1) _ (by omega) (cw.tr Cw.w3) ?_ _⟩
          rw [brw, hne, if_pos ⟨hco, hem⟩]
          exact CR.w3 hct.1 (bI_s n).symm rfl
      · refine rX4_borrow_50 ?_
        simp only [bX4_borrow_50, run, Nat.reduceAdd, lg, st1, st2, lkill, lset, fvv, sfv, kind3, cat1, retI, retA, List.length_cons, List.length_nil, true_and, and_true, or_true, true_or, qX4_borrow, if_neg hco, show ((0 : Int32) = 0) = True by decide, not_true_eq_false, not_false_eq_true, false_implies, true_and, and_true, tti]
        exact skip fun q => hco q.1
  refine rX4_borrow_0 ?_
  simp only [bX4_borrow_0, run, Nat.reduceAdd, lg, st1, st2, lkill, lset, fvv, sfv, kind3, cat1, retI, retA, List.length_cons, List.length_nil, true_and, and_true, or_true, true_or, qX4_borrow]
  refine sX4_borrow_2 (e_cell ?_)
  simp only [cont, Option.toList, List.cons_append, List.nil_append]
  refine rX4_borrow_5 ?_
  simp only [bX4_borrow_5, run, Nat.reduceAdd, lg, st1, st2, lkill, lset, fvv, sfv, kind3, cat1, retI, retA, List.length_cons, List.length_nil, true_and, and_true, or_true, true_or, qX4_borrow]
  exact lp _ 0 h (Nat.zero_add _) Cw.rf hc _
theorem e_tellWord {g : Gp} {x b l m : Nat} {D : HD} {f : Nat → Nat} {gv : Nat → List Nat} {T : Nat → Cell3} {h : AH} {Q : PQ} (hx : LxS h x b) (hh : HsR h (zR h x 0) D) (hD : hdOk D) (hs : Sn h f) (hg : GvR h gv) (hl : l < D.1) (hm : m < 12) (hT : ∀ k, k < l → CR h b (k * 12 + m) (T k)) (hTo : ∀ k, k < l → cOk 12 9 (T k))
    (hq : ∀ h', Cw b (l * 12 + m) h h' → CR h' b (l * 12 + m) (tel D f gv T l m 9) → Q (.inl none) h') : Ev g mX4_tellWord [vR x, vI (nI l), vI (nI m)] h Q := by
  have hD1 := hD.2.1
  have hg1 := (hg.2 m hm).1
  refine nX4_tellWord ?_
  refine Ex.wf (fun w => ?_)
  have hk : l * 12 + m < 120 := by omega
  have kk : (nI (l * 12 + m)).toNatClampNeg = l * 12 + m := nI_clamp (by omega)
  have vk := vp_in_nI hk (by omega : 120 < 2 ^ 31)
  have xb : ∀ {h1}, Cw b (l * 12 + m) h h1 → LxS h1 x b ∧ zR h1 x 0 = zR h x 0 := fun cw => hx.kp w cw.1 (show ¬ (b ≤ x ∧ x ≤ b + 2) from fun q => by have := hx.2.2.2.2.2.2.2.2.2.2.2.1; omega)
  refine rX4_tellWord_0 ?_
  simp only [bX4_tellWord_0, run, Nat.reduceAdd, lg, st1, st2, lkill, lset, fvv, sfv, kind3, cat1, retI, retA, List.length_cons, List.length_nil, true_and, and_true, or_true, true_or, qX4_tellWord]
  refine sX4_tellWord_3 hx.1 (e_inherit hx hh hD hg hl hm hT fun h1 cw1 cr1 => ?_)
  simp only [cont, Option.toList, List.cons_append, List.nil_append]
  refine rX4_tellWord_6 ?_
  simp only [bX4_tellWord_6, run, Nat.reduceAdd, lg, st1, st2, lkill, lset, fvv, sfv, kind3, cat1, retI, retA, List.length_cons, List.length_nil, true_and, and_true, or_true, true_or, qX4_tellWord]
  refine sX4_tellWord_8 (e_cell ?_)
  simp only [cont, Option.toList, List.cons_append, List.nil_append]
  obtain ⟨hx1, ex1⟩ := xb cw1
  have kh1 := hx.kh cw1.k3
  have hh0 := hh
  obtain ⟨b1, ⟨e, xs, b2, b3, b4⟩, -⟩ := hh0
  obtain ⟨c1, c2, e2, ys, c3, c4, c5⟩ := b4 l hl
  obtain ⟨g1, -, -, -, g5⟩ := kh1.sm w b1 (Or.inr (Or.inr (Or.inl rfl)))
  obtain ⟨d1, -, -, -, d5⟩ := kh1.sm w c1 (Or.inr (Or.inr (Or.inr (Or.inl rfl))))
  have hlen := hD.2.2.2.1 l hl
  have b2k := b2.kh w kh1
  refine rX4_tellWord_11 ?_
  simp only [bX4_tellWord_11, run, Nat.reduceAdd, lg, st1, st2, lkill, lset, fvv, sfv, kind3, cat1, retI, retA, List.length_cons, List.length_nil, true_and, and_true, or_true, true_or, qX4_tellWord, hx1.1, ex1, g1, g5, not_true_eq_false, not_false_eq_true, false_implies, true_and, and_true, tti]
  refine sX4_tellWord_20 b2k.1 (l_get b2k (by omega) ?_)
  simp only [cont, Option.toList, List.cons_append, List.nil_append]
  refine rX4_tellWord_23 ?_
  simp only [bX4_tellWord_23, run, Nat.reduceAdd, lg, st1, st2, lkill, lset, fvv, sfv, kind3, cat1, retI, retA, List.length_cons, List.length_nil, true_and, and_true, or_true, true_or, qX4_tellWord, d1, d5, not_true_eq_false, not_false_eq_true, false_implies, true_and, and_true, tti]
  generalize hla : zR h (xs.getD l 0) 1 = la at c3
  have lp : ∀ d t h2, t + d = 9 → Cw b (l * 12 + m) h h2 → CR h2 b (l * 12 + m) (tel D f gv T l m t) → ∀ y z, Ex g mX4_tellWord 34 [vR x, vI (nI l), vI (nI m), vI (nI (l * 12 + m)), vR la, vI (nI t), y, z] [] h2 (0, 0) Q := by
    intro d
    induction d with
    | zero =>
      intro t h2 hn cw cr y z
      have e9 : t = 9 := by omega
      subst e9
      refine rX4_tellWord_34 ?_
      simp only [bX4_tellWord_34, run, Nat.reduceAdd, lg, st1, st2, lkill, lset, fvv, sfv, kind3, cat1, retI, retA, List.length_cons, List.length_nil, true_and, and_true, or_true, true_or, qX4_tellWord, show ((8 : Int32) < nI 9) = True by decide, not_true_eq_false, not_false_eq_true, false_implies, true_and, and_true, tti]
      refine rX4_tellWord_123 ?_
      simp only [bX4_tellWord_123, run, Nat.reduceAdd, lg, st1, st2, lkill, lset, fvv, sfv, kind3, cat1, retI, retA, List.length_cons, List.length_nil, true_and, and_true, or_true, true_or, qX4_tellWord]
      exact hq _ cw cr
    | succ d ih =>
      intro t h2 hn cw cr y z
      obtain ⟨hx2, ex2⟩ := xb cw
      have hh2 := hh.kh w (hx.kh cw.k3)
      rw [← ex2] at hh2
      have nlt : (8 : Int32) < nI t ↔ False := ⟨nI_nlt (a := 8) (b := t) (by omega) (by omega), False.elim⟩
      refine rX4_tellWord_34 ?_
      simp only [bX4_tellWord_34, run, Nat.reduceAdd, lg, st1, st2, lkill, lset, fvv, sfv, kind3, cat1, retI, retA, List.length_cons, List.length_nil, true_and, and_true, or_true, true_or, qX4_tellWord, nlt, not_true_eq_false, not_false_eq_true, false_implies, true_and, and_true, tti]
      have hT2 : ∀ k, k < l → CR h2 b (k * 12 + m) (T k) := fun k hkl => (hT k hkl).cw cw (by omega)
      refine sX4_tellWord_46 hx2.1 (e_borrow hx2 hh2 hD hl hm (by omega) hT2 (fun k hkl => (hTo k hkl).1) cr fun h3 cw3 cr3 => ?_)
      simp only [cont, Option.toList, List.cons_append, List.nil_append]
      have ok3 := brw_ok (t := t) (m := m) (ln := D.2.2.2) (T := T) (fun k hk => (hTo k hk).1) (tel_ok (f := f) (gv := gv) (m := m) hD hl hTo hg1 t) (fun i hi => (hD.2.2.2.2.2 i hi).2.1) _ hD.2.2.2.2.1 (Nat.le_refl _)
      have etel : tel D f gv T l m (t + 1) = lst f (D.2.2.1 l) t (brw D.2.2.2 T l m t D.2.2.2.length (tel D f gv T l m t)) := rfl
      generalize brw D.2.2.2 T l m t D.2.2.2.length (tel D f gv T l m t) = c at ok3 etel cr3
      have cw' := cw.tr cw3
      obtain ⟨hx3, ex3⟩ := xb cw'
      have next : ∀ h4 y z, Cw b (l * 12 + m) h h4 → CR h4 b (l * 12 + m) (tel D f gv T l m (t + 1)) → Ex g mX4_tellWord 34 [vR x, vI (nI l), vI (nI m), vI (nI (l * 12 + m)), vR la, vI (nI t + 1), y, z] [] h4 (0, 0) Q := fun h4 y z q1 q2 => by rw [nI_1]; exact ih (t + 1) h4 (by omega) q1 q2 y z
      rw [etel] at next
      -- the list of laws is as it was
      have kh13 : Kh h h3 := hx.kh cw'.k3
      have c3k := c3.kh w kh13
      refine rX4_tellWord_49 ?_
      simp only [bX4_tellWord_49, run, Nat.reduceAdd, lg, st1, st2, lkill, lset, fvv, sfv, kind3, cat1, retI, retA, List.length_cons, List.length_nil, true_and, and_true, or_true, true_or, qX4_tellWord]
      refine sX4_tellWord_53 c3k.1 (l_size c3k ?_)
      simp only [cont, Option.toList, List.cons_append, List.nil_append]
      by_cases hlt : t < (D.2.2.1 l).length
      · have nle : nI (D.2.2.1 l).length ≤ nI t ↔ False := ⟨nI_ge hlt (by omega), False.elim⟩
        obtain ⟨a1, a2, a3, a4, a5, a6, a7, a8, a9, a10, a11, a12, a13⟩ := hx3
        have hlw := (c5 t hlt).kh w kh13
        refine rX4_tellWord_56 ?_
        simp only [bX4_tellWord_56, run, Nat.reduceAdd, lg, st1, st2, lkill, lset, fvv, sfv, kind3, cat1, retI, retA, List.length_cons, List.length_nil, true_and, and_true, or_true, true_or, qX4_tellWord, c4, nle, not_true_eq_false, not_false_eq_true, false_implies, true_and, and_true, tti]
        refine sX4_tellWord_63 c3k.1 (l_get c3k (by omega) ?_)
        simp only [cont, Option.toList, List.cons_append, List.nil_append]
        have cr3a := cr3.1
        refine rX4_tellWord_66 ?_
        simp only [bX4_tellWord_66, run, Nat.reduceAdd, lg, st1, st2, lkill, lset, fvv, sfv, kind3, cat1, retI, retA, List.length_cons, List.length_nil, true_and, and_true, or_true, true_or, qX4_tellWord, hlw.2.1, not_true_eq_false, not_false_eq_true, false_implies, true_and, and_true, tti, a1, a2, a4, a8, kk, cr3a]
        refine ⟨vk, sX4_tellWord_79 hlw.2.1 (e_goOver (hs.kp w cw'.1 (fun a q1 q2 q3 => by omega)) hlw ok3.1 ?_)⟩
        simp only [cont, Option.toList, List.cons_append, List.nil_append]
        unfold lst at next
        rw [if_pos hlt] at next
        have key := eC_inj (gov_wok (f := f) (w := (D.2.2.1 l).getD t w0) ok3.1) ok3.1
        by_cases hsame : gov f ((D.2.2.1 l).getD t w0) c.1 = c.1
        · rw [if_pos hsame] at next
          have e0 : lg_cmp (eC (gov f ((D.2.2.1 l).getD t w0) c.1)) (eC c.1) = 0 := (lg_cmp_eq _ _).mpr (key.mpr hsame)
          refine rX4_tellWord_82 ?_
          simp only [bX4_tellWord_82, run, Nat.reduceAdd, lg, st1, st2, lkill, lset, fvv, sfv, kind3, cat1, retI, retA, List.length_cons, List.length_nil, true_and, and_true, or_true, true_or, qX4_tellWord, not_true_eq_false, not_false_eq_true, false_implies, true_and, and_true, tti, a1, a4, a8, kk, cr3a, e0]
          refine ⟨vk, ?_⟩
          refine rX4_tellWord_117 ?_
          simp only [bX4_tellWord_117, run, Nat.reduceAdd, lg, st1, st2, lkill, lset, fvv, sfv, kind3, cat1, retI, retA, List.length_cons, List.length_nil, true_and, and_true, or_true, true_or, qX4_tellWord]
          exact next _ _ _ cw' cr3
        · rw [if_neg hsame] at next
          have e0 : lg_cmp (eC (gov f ((D.2.2.1 l).getD t w0) c.1)) (eC c.1) = 0 ↔ False := ⟨fun q => hsame (key.mp ((lg_cmp_eq _ _).mp q)), False.elim⟩
          refine rX4_tellWord_82 ?_
          simp only [bX4_tellWord_82, run, Nat.reduceAdd, lg, st1, st2, lkill, lset, fvv, sfv, kind3, cat1, retI, retA, List.length_cons, List.length_nil, true_and, and_true, or_true, true_or, qX4_tellWord, kL, kI, kD, kR, rL, rI, rD, iL, iD, iR, lI, lD, lR, not_true_eq_false, not_false_eq_true, false_implies, true_and, and_true, tti, a1, a4, a6, a8, a10, kk, cr3a, e0, cr3.2.2, w_one t (by omega), fa_or]
          refine ⟨vk, vk, vk, vk, next _ _ _ (cw'.tr (Cw.wL.tr Cw.wI2)) ⟨?_, ?_, ?_⟩⟩
          · rw [lI, zL_sL, up1_s]
          · exact (congrFun (up1_n (zI (sL h3 b (l * 12 + m) _)) _ (by omega)) _).trans cr3.2.1
          · rw [zI_sI, up1_s]
      · have nle : nI (D.2.2.1 l).length ≤ nI t ↔ True := ⟨fun _ => trivial, fun _ => nI_le (by omega) (by omega)⟩
        refine rX4_tellWord_56 ?_
        simp only [bX4_tellWord_56, run, Nat.reduceAdd, lg, st1, st2, lkill, lset, fvv, sfv, kind3, cat1, retI, retA, List.length_cons, List.length_nil, true_and, and_true, or_true, true_or, qX4_tellWord, c4, nle, not_true_eq_false, not_false_eq_true, false_implies, true_and, and_true, tti]
        unfold lst at next
        rw [if_neg hlt] at next
        refine rX4_tellWord_117 ?_
        simp only [bX4_tellWord_117, run, Nat.reduceAdd, lg, st1, st2, lkill, lset, fvv, sfv, kind3, cat1, retI, retA, List.length_cons, List.length_nil, true_and, and_true, or_true, true_or, qX4_tellWord]
        exact next _ _ _ cw' cr3
  exact lp 9 0 h1 rfl cw1 cr1 _ _
/-- the lexicon with what is known in it -/
def LxR (h : AH) (x b : Nat) (D : HD) (f : Nat → Nat) (gv : Nat → List Nat) : Prop := LxS h x b ∧ ∀ m, m < 12 → zI h (b + 3) m = 0 ∨ (zI h (b + 3) m = 1 ∧ ∀ l, l < D.1 → CR h b (l * 12 + m) (cel D f gv m l))
theorem LxS.no {h : AH} {x b : Nat} (hx : LxS h x b) : ¬ (b ≤ x ∧ x ≤ b + 3) := fun q => by have := hx.2.2.2.2.2.2.2.2.2.2.2.1; omega
theorem e_freshen {g : Gp} {x b m : Nat} {D : HD} {f : Nat → Nat} {gv : Nat → List Nat} {h : AH} {Q : PQ} (hx : LxR h x b D f gv) (hh : HsR h (zR h x 0) D) (hD : hdOk D) (hs : Sn h f) (hg : GvR h gv) (hm : m < 12)
    (hq : ∀ h', Kp (fun a => b ≤ a ∧ a ≤ b + 3) h h' → LxR h' x b D f gv → zI h' (b + 3) m = 1 → (∀ j, zI h (b + 3) j = 1 → zI h' (b + 3) j = 1) → Q (.inl none) h') : Ev g mX4_freshen [vR x, vI (nI m)] h Q := by
  have hD1 := hD.2.1
  have hg1 := (hg.2 m hm).1
  obtain ⟨hx, hfr⟩ := hx
  have hx0 := hx
  obtain ⟨a1, a2, a3, a4, a5, a6, a7, a8, a9, a10, a11, a12, a13⟩ := hx0
  refine nX4_freshen ?_
  refine Ex.wf (fun w => ?_)
  have km : (nI m).toNatClampNeg = m := nI_clamp (by omega)
  have vm := vp_in_nI hm (by omega : 12 < 2 ^ 31)
  rcases hfr m hm with h0 | ⟨h1, -⟩
  · refine rX4_freshen_0 ?_
    simp only [bX4_freshen_0, run, Nat.reduceAdd, lg, st1, st2, lkill, lset, fvv, sfv, kind3, cat1, retI, retA, List.length_cons, List.length_nil, true_and, and_true, or_true, true_or, qX4_freshen, a1, a7, a11, km, h0, show ((0 : Int32) = 0) = True by decide, not_true_eq_false, not_false_eq_true, false_implies, true_and, and_true, tti]
    refine ⟨vm, ?_⟩
    refine rX4_freshen_10 ?_
    simp only [bX4_freshen_10, run, Nat.reduceAdd, lg, st1, st2, lkill, lset, fvv, sfv, kind3, cat1, retI, retA, List.length_cons, List.length_nil, true_and, and_true, or_true, true_or, qX4_freshen]
    have lp : ∀ d l h2, l + d = D.1 → Kp (fun a => b ≤ a ∧ a ≤ b + 2) h h2 → (∀ j, (∀ k, j ≠ k * 12 + m) → zL h2 b j = zL h b j ∧ zI h2 (b + 1) j = zI h (b + 1) j ∧ zI h2 (b + 2) j = zI h (b + 2) j) → (∀ k, k < l → CR h2 b (k * 12 + m) (cel D f gv m k)) → Ex g mX4_freshen 12 [vR x, vI (nI m), vI (nI l)] [] h2 (0, 0) Q := by
      intro d
      induction d with
      | zero =>
        intro l h2 hn kp oth cr
        obtain ⟨hx2, ex2⟩ := hx.kp w kp fun q => hx.no ⟨q.1, by omega⟩
        have kh2 : Kh h h2 := hx.kh (kp.mono fun a _ q => ⟨q.1, by omega⟩)
        obtain ⟨b1, ⟨e, xs, b2, b3, b4⟩, -⟩ := hh.kh w kh2
        obtain ⟨y1, y2, y3, y4, y5, y6, y7, y8, y9, y10, y11, y12, y13⟩ := hx2
        refine rX4_freshen_12 ?_
        simp only [bX4_freshen_12, run, Nat.reduceAdd, lg, st1, st2, lkill, lset, fvv, sfv, kind3, cat1, retI, retA, List.length_cons, List.length_nil, true_and, and_true, or_true, true_or, qX4_freshen, y1, ex2, b1, not_true_eq_false, not_false_eq_true, false_implies, true_and, and_true, tti]
        refine sX4_freshen_20 b2.1 (l_size b2 ?_)
        simp only [cont, Option.toList, List.cons_append, List.nil_append]
        have nle : nI D.1 ≤ nI l ↔ True := ⟨fun _ => trivial, fun _ => nI_le (by omega) (by omega)⟩
        refine rX4_freshen_23 ?_
        simp only [bX4_freshen_23, run, Nat.reduceAdd, lg, st1, st2, lkill, lset, fvv, sfv, kind3, cat1, retI, retA, List.length_cons, List.length_nil, true_and, and_true, or_true, true_or, qX4_freshen, b3, nle, not_true_eq_false, not_false_eq_true, false_implies, true_and, and_true, tti]
        refine rX4_freshen_38 ?_
        simp only [bX4_freshen_38, run, Nat.reduceAdd, lg, st1, st2, lkill, lset, fvv, sfv, kind3, cat1, retI, retA, List.length_cons, List.length_nil, true_and, and_true, or_true, true_or, qX4_freshen, y1, y7, y11, km, not_true_eq_false, not_false_eq_true, false_implies, true_and, and_true, tti]
        have s3 := kp.2.2 (b + 3) (w.lt a11 (by decide)) (fun q => by omega)
        have i3 : ∀ c, c ≠ b + 3 → zI (sI h2 (b + 3) m 1) c = zI h2 c := fun c hc => up1_n (zI h2) _ hc
        have e3 : zI (sI h2 (b + 3) m 1) (b + 3) = up1 (zI h (b + 3)) m 1 := by rw [zI_sI, s3.1]
        have cr' : ∀ k c, CR h2 b k c → CR (sI h2 (b + 3) m 1) b k c := fun k c q => ⟨q.1, by rw [i3 _ (by omega)]; exact q.2.1, by rw [i3 _ (by omega)]; exact q.2.2⟩
        have kp' : Kp (fun a => b ≤ a ∧ a ≤ b + 3) h (sI h2 (b + 3) m 1) := (kp.mono fun a _ q => ⟨q.1, by omega⟩).tr (Kp.sI ⟨by omega, Nat.le_refl _⟩)
        refine ⟨vm, hq _ kp' ⟨(hx.kp w kp' hx.no).1, fun m' hm' => ?_⟩ (by rw [e3, up1_s]) fun j hj => ?_⟩
        · by_cases e : m' = m
          · subst e
            exact Or.inr ⟨by rw [e3, up1_s], fun k hk => cr' _ _ (cr k (by omega))⟩
          · rw [e3, up1_n _ _ e]
            refine (hfr m' hm').imp id fun q => ⟨q.1, fun k hk => cr' _ _ ?_⟩
            obtain ⟨o1, o2, o3⟩ := oth (k * 12 + m') fun k2 => by omega
            obtain ⟨p1, p2, p3⟩ := q.2 k hk
            exact ⟨o1.trans p1, o2.trans p2, o3.trans p3⟩
        · rw [e3]
          by_cases e : j = m
          · rw [e, up1_s]
          · rw [up1_n _ _ e]; exact hj
      | succ d ih =>
        intro l h2 hn kp oth cr
        obtain ⟨hx2, ex2⟩ := hx.kp w kp fun q => hx.no ⟨q.1, by omega⟩
        have kh2 : Kh h h2 := hx.kh (kp.mono fun a _ q => ⟨q.1, by omega⟩)
        have hh2 := hh.kh w kh2
        have hh3 := hh2
        obtain ⟨b1, ⟨e, xs, b2, b3, b4⟩, -⟩ := hh2
        have y1 := hx2.1
        refine rX4_freshen_12 ?_
        simp only [bX4_freshen_12, run, Nat.reduceAdd, lg, st1, st2, lkill, lset, fvv, sfv, kind3, cat1, retI, retA, List.length_cons, List.length_nil, true_and, and_true, or_true, true_or, qX4_freshen, y1, ex2, b1, not_true_eq_false, not_false_eq_true, false_implies, true_and, and_true, tti]
        refine sX4_freshen_20 b2.1 (l_size b2 ?_)
        simp only [cont, Option.toList, List.cons_append, List.nil_append]
        have nle : nI D.1 ≤ nI l ↔ False := ⟨nI_ge (by omega) (by omega), False.elim⟩
        refine rX4_freshen_23 ?_
        simp only [bX4_freshen_23, run, Nat.reduceAdd, lg, st1, st2, lkill, lset, fvv, sfv, kind3, cat1, retI, retA, List.length_cons, List.length_nil, true_and, and_true, or_true, true_or, qX4_freshen, b3, nle, not_true_eq_false, not_false_eq_true, false_implies, true_and, and_true, tti]
        rw [← ex2] at hh3
        refine sX4_freshen_29 y1 (e_tellWord (T := tbl D f gv m l) (gv := gv) (f := f) hx2 hh3 hD (hs.kp w kp fun a q1 q2 q3 => by omega) (hg.kp w kp fun q => by omega) (by omega) hm (fun k hk => by rw [tbl_cel hk]; exact cr k hk) (fun k _ => tbl_ok hD hg1 l (by omega) k) fun h3 cw cr3 => ?_)
        simp only [cont, Option.toList, List.cons_append, List.nil_append]
        refine rX4_freshen_32 ?_
        simp only [bX4_freshen_32, run, Nat.reduceAdd, lg, st1, st2, lkill, lset, fvv, sfv, kind3, cat1, retI, retA, List.length_cons, List.length_nil, true_and, and_true, or_true, true_or, qX4_freshen]
        rw [nI_1]
        refine ih (l + 1) h3 (by omega) (kp.tr cw.1) (fun j hj => ?_) fun k hk => ?_
        · obtain ⟨q1, q2, q3⟩ := cw.2 j (hj l)
          obtain ⟨r1, r2, r3⟩ := oth j hj
          exact ⟨q1.trans r1, q2.trans r2, q3.trans r3⟩
        · by_cases e : k = l
          · subst e
            have : cel D f gv m k = tel D f gv (tbl D f gv m k) k m 9 := if_pos rfl
            rw [this]
            exact cr3
          · exact (cr k (by omega)).cw cw (by omega)
    exact lp D.1 0 h (Nat.zero_add _) Kp.rf (fun _ _ => ⟨rfl, rfl, rfl⟩) (fun k hk => absurd hk (Nat.not_lt_zero _))
  · refine rX4_freshen_0 ?_
    simp only [bX4_freshen_0, run, Nat.reduceAdd, lg, st1, st2, lkill, lset, fvv, sfv, kind3, cat1, retI, retA, List.length_cons, List.length_nil, true_and, and_true, or_true, true_or, qX4_freshen, a1, a7, a11, km, h1, show ((1 : Int32) = 0) = False by decide, not_true_eq_false, not_false_eq_true, false_implies, true_and, and_true, tti]
    exact ⟨vm, hq h Kp.rf ⟨hx, hfr⟩ h1 fun _ q => q⟩
theorem e_freshenAll {g : Gp} {x b : Nat} {D : HD} {f : Nat → Nat} {gv : Nat → List Nat} {h : AH} {Q : PQ} (hx : LxR h x b D f gv) (hh : HsR h (zR h x 0) D) (hD : hdOk D) (hs : Sn h f) (hg : GvR h gv)
    (hq : ∀ h', Kp (fun a => b ≤ a ∧ a ≤ b + 3) h h' → LxR h' x b D f gv → (∀ m, m < 12 → zI h' (b + 3) m = 1) → Q (.inl none) h') : Ev g mX4_freshenAll [vR x] h Q := by
  refine nX4_freshenAll ?_
  refine Ex.wf (fun w => ?_)
  have lp : ∀ d m h2, m + d = 12 → Kp (fun a => b ≤ a ∧ a ≤ b + 3) h h2 → LxR h2 x b D f gv → (∀ j, j < m → zI h2 (b + 3) j = 1) → Ex g mX4_freshenAll 2 [vR x, vI (nI m)] [] h2 (0, 0) Q := by
    intro d
    induction d with
    | zero =>
      intro m h2 hn kp lx fr
      have e : m = 12 := by omega
      subst e
      refine rX4_freshenAll_2 ?_
      simp only [bX4_freshenAll_2, run, Nat.reduceAdd, lg, st1, st2, lkill, lset, fvv, sfv, kind3, cat1, retI, retA, List.length_cons, List.length_nil, true_and, and_true, or_true, true_or, qX4_freshenAll, show ((12 : Int32) ≤ nI 12) = True by decide, not_true_eq_false, not_false_eq_true, false_implies, true_and, and_true, tti]
      refine rX4_freshenAll_19 ?_
      simp only [bX4_freshenAll_19, run, Nat.reduceAdd, lg, st1, st2, lkill, lset, fvv, sfv, kind3, cat1, retI, retA, List.length_cons, List.length_nil, true_and, and_true, or_true, true_or, qX4_freshenAll]
      exact hq _ kp lx fr
    | succ d ih =>
      intro m h2 hn kp lx fr
      have nle : (12 : Int32) ≤ nI m ↔ False := ⟨nI_ge (b := 12) (by omega) (by omega), False.elim⟩
      have ex2 := (hx.1.kp w kp hx.1.no).2
      have kh2 := hx.1.kh kp
      have hh2 := hh.kh w kh2
      rw [← ex2] at hh2
      refine rX4_freshenAll_2 ?_
      simp only [bX4_freshenAll_2, run, Nat.reduceAdd, lg, st1, st2, lkill, lset, fvv, sfv, kind3, cat1, retI, retA, List.length_cons, List.length_nil, true_and, and_true, or_true, true_or, qX4_freshenAll, nle, not_true_eq_false, not_false_eq_true, false_implies, true_and, and_true, tti]
      have b25 := hx.1.2.2.2.2.2.2.2.2.2.2.2.2
      refine sX4_freshenAll_10 lx.1.1 (e_freshen lx hh2 hD (hs.kp w kp fun a q1 q2 q3 => by omega) (hg.kp w kp fun q => by omega) (by omega) fun h3 kp3 lx3 f3 f4 => ?_)
      simp only [cont, Option.toList, List.cons_append, List.nil_append]
      refine rX4_freshenAll_13 ?_
      simp only [bX4_freshenAll_13, run, Nat.reduceAdd, lg, st1, st2, lkill, lset, fvv, sfv, kind3, cat1, retI, retA, List.length_cons, List.length_nil, true_and, and_true, or_true, true_or, qX4_freshenAll]
      rw [nI_1]
      refine ih (m + 1) h3 (by omega) (kp.tr kp3) lx3 fun j hj => ?_
      by_cases e : j = m
      · rw [e]; exact f3
      · exact f4 j (fr j (by omega))
  refine rX4_freshenAll_0 ?_
  simp only [bX4_freshenAll_0, run, Nat.reduceAdd, lg, st1, st2, lkill, lset, fvv, sfv, kind3, cat1, retI, retA, List.length_cons, List.length_nil, true_and, and_true, or_true, true_or, qX4_freshenAll]
  exact lp 12 0 h rfl Kp.rf hx fun j hj => absurd hj (Nat.not_lt_zero _)
