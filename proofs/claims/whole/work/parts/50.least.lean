theorem hI_m2 {o : Option Nat} (h : ∀ c, o = some c → c < 1000) : hI o = -2 ↔ False := by
  refine ⟨fun e => ?_, False.elim⟩
  cases o with
  | none => exact absurd e (by decide)
  | some c =>
    have hc := h c rfl
    have := congrArg Int32.toInt e
    rw [show hI (some c) = nI c from rfl, nI_toInt (by omega)] at this
    simp at this
theorem cwo_lt {f : Nat → Nat} {a b : List Nat} (ha : Wok a) (hb : Wok b) : ∀ c, cwo f a b = some c → c < 1000 := by
  intro c h
  unfold cwo at h
  split at h
  · exact absurd h (by simp)
  · rw [← Option.some.inj h]
    have := lc_le (f := f) a b
    have := ha.1
    have := hb.1
    omega
theorem e_leastCost {g : Gp} {m i j : Nat} {h : AH} {Q : PQ} {f : Nat → Nat} {gv : Nat → List Nat} {op : Nat} {D : HD} (kn : Kn1 h f gv op D m) (hm : m < 12) (hi : i < D.1) (hj : j < D.1)
    (hq : ∀ h', Kc m h h' → FamR h' f gv op D → Q (.inl (some (vI (hI (cwo f (cel D f gv m i).1 (cel D f gv m j).1))))) h') : Ev g mX9_leastCost [vR 4, vI (nI m), vI (nI i), vI (nI j)] h Q := by
  have hf := kn.1
  have hb := hf.b
  have hD1 := hb.ok.2.1
  have gm := (hb.2.1.2.2 m hm).1
  have oki := cel_ok (f := f) (m := m) hb.ok gm hi
  have okj := cel_ok (f := f) (m := m) hb.ok gm hj
  have c1 := hb.1.1.1
  obtain ⟨-, f0, f1, f3, f4, f5, f6, f7, f8, f9, -⟩ := hb.1.1
  obtain ⟨kc1, kc2⟩ := hb.2.2.2.2.2.2.2
  obtain ⟨t1, t2⟩ := kc2 m hm
  have lx := hb.2.2.1.2
  refine nX9_leastCost ?_
  refine Ex.wf (fun w => ?_)
  have hpair : min i j * 10 + max i j < 100 := by omega
  have km : (nI m).toNatClampNeg = m := nI_clamp (by omega)
  have kp : (nI (min i j * 10 + max i j)).toNatClampNeg = min i j * 10 + max i j := nI_clamp (by omega)
  have vm := vp_in_nI hm (by omega : 12 < 2 ^ 31)
  have vp := vp_in_nI hpair (by omega : 100 < 2 ^ 31)
  have sym : cwo f (cel D f gv m (min i j)).1 (cel D f gv m (max i j)).1 = cwo f (cel D f gv m i).1 (cel D f gv m j).1 := by
    rcases Nat.le_total i j with q | q
    · rw [Nat.min_eq_left q, Nat.max_eq_right q]
    · rw [Nat.min_eq_right q, Nat.max_eq_left q, cwo_c]
  have kcv := hf.2.2.2.2.2.2.2.2 m hm (min i j) (max i j) (by omega) (by omega)
  rw [sym] at kcv
  have ne2 := hI_m2 (cwo_lt (f := f) oki.1 okj.1)
  refine rX9_leastCost_0 ?_
  simp only [bX9_leastCost_0, run, Nat.reduceAdd, lg, st1, st2, lkill, lset, fvv, sfv, kind3, cat1, retI, retA, List.length_cons, List.length_nil, true_and, and_true, or_true, true_or, qX9_leastCost]
  refine sX9_leastCost_2 ?_
  rw [nI_min (by omega) (by omega)]
  refine rX9_leastCost_5 ?_
  simp only [bX9_leastCost_5, run, Nat.reduceAdd, lg, st1, st2, lkill, lset, fvv, sfv, kind3, cat1, retI, retA, List.length_cons, List.length_nil, true_and, and_true, or_true, true_or, qX9_leastCost]
  refine sX9_leastCost_10 ?_
  rw [nI_max (by omega) (by omega), show (10 : Int32) = nI 10 from rfl, pk_mul]
  rcases kcv with kv | kv
  · refine rX9_leastCost_13 ?_
    simp only [bX9_leastCost_13, run, Nat.reduceAdd, lg, st1, st2, lkill, lset, fvv, sfv, kind3, cat1, retI, retA, List.length_cons, List.length_nil, true_and, and_true, or_true, true_or, qX9_leastCost, nI_add, c1, f9, f4, kc1, t1, t2, km, kp, kv, not_true_eq_false, not_false_eq_true, false_implies, true_and, and_true, tti]
    have fin : ∀ h2 v, v = hI (cwo f (cel D f gv m i).1 (cel D f gv m j).1) → zK h2 = zK h → zR h2 = zR h → Kp (fun a => 48 ≤ a ∧ a ≤ 62) h h2 → Q (.inl (some (vI v))) (sI h2 (87 + m) (min i j * 10 + max i j) v) := fun h2 v hv ek er k2 => by
      have y : Kc m h (sI h2 (87 + m) (min i j * 10 + max i j) v) := ⟨ek, er, (k2.mono fun a _ q => Or.inl q).tr (Kp.sI (Or.inr rfl))⟩
      have fr := y.fam w hf hm fun i' j' q1 q2 => by
        rw [zI_sI]
        by_cases e : i' * 10 + j' = min i j * 10 + max i j
        · rw [e, up1_s]
          have e1 : i' = min i j := by omega
          have e2 : j' = max i j := by omega
          rw [e1, e2, sym]
          exact Or.inr hv
        · rw [up1_n _ _ e, (k2.2.2 (87 + m) (w.lt t2 (by decide)) (by omega)).1]
          exact hf.2.2.2.2.2.2.2.2 m hm i' j' q1 q2
      have := hq _ y fr
      rw [← hv] at this
      exact this
    refine ⟨vm, vp, vm, sX9_leastCost_45 lx.1 (e_bothHave lx (by omega) (by omega) hm (kn.2 i hi) (kn.2 j hj) oki.1 okj.1 ?_)⟩
    simp only [cont, Option.toList, List.cons_append, List.nil_append]
    by_cases hb2 : ¬ (cel D f gv m i).1 = [] ∧ ¬ (cel D f gv m j).1 = []
    · refine rX9_leastCost_48 ?_
      simp only [bX9_leastCost_48, run, Nat.reduceAdd, lg, st1, st2, lkill, lset, fvv, sfv, kind3, cat1, retI, retA, List.length_cons, List.length_nil, true_and, and_true, or_true, true_or, qX9_leastCost, if_pos hb2, show ¬ (1 : Int32) = 0 by decide, c1, f7, f4, not_true_eq_false, not_false_eq_true, false_implies, true_and, and_true, tti]
      refine sX9_leastCost_61 lx.1 (e_wordOf lx (by omega) hm (kn.2 i hi) ?_)
      simp only [cont, Option.toList, List.cons_append, List.nil_append]
      refine rX9_leastCost_64 ?_
      simp only [bX9_leastCost_64, run, Nat.reduceAdd, lg, st1, st2, lkill, lset, fvv, sfv, kind3, cat1, retI, retA, List.length_cons, List.length_nil, true_and, and_true, or_true, true_or, qX9_leastCost, c1, f4, not_true_eq_false, not_false_eq_true, false_implies, true_and, and_true, tti]
      refine sX9_leastCost_70 lx.1 (e_wordOf lx (by omega) hm (kn.2 j hj) ?_)
      simp only [cont, Option.toList, List.cons_append, List.nil_append]
      have al := hb.2.2.2.2.2.1
      refine sX9_leastCost_73 al.1 (e_weigh hb.2.1.1 al oki.1 okj.1 fun h2 k2 r2 kp2 _ _ => ?_)
      simp only [cont, Option.toList, List.cons_append, List.nil_append]
      have z := fin h2 (nI (lc f (cel D f gv m i).1 (cel D f gv m j).1)) (by unfold cwo; rw [if_neg (fun q => q.elim hb2.1 hb2.2)]; rfl) k2 r2 kp2
      refine rX9_leastCost_76 ?_
      simp only [bX9_leastCost_76, run, Nat.reduceAdd, lg, st1, st2, lkill, lset, fvv, sfv, kind3, cat1, retI, retA, List.length_cons, List.length_nil, true_and, and_true, or_true, true_or, qX9_leastCost, kL, kI, kD, kR, rL, rI, rD, iL, iD, iR, lI, lD, lR, k2, r2, c1, f9, kc1, t1, t2, km, kp, zI_sI, up1_s, not_true_eq_false, not_false_eq_true, false_implies, true_and, and_true, tti]
      exact ⟨vp, vm, vp, z⟩
    · have e9 : (cel D f gv m i).1 = [] ∨ (cel D f gv m j).1 = [] := Classical.byContradiction fun r => hb2 ⟨fun q => r (Or.inl q), fun q => r (Or.inr q)⟩
      have z := fin h (-1) (by unfold cwo; rw [if_pos e9]; rfl) rfl rfl Kp.rf
      refine rX9_leastCost_48 ?_
      simp only [bX9_leastCost_48, run, Nat.reduceAdd, lg, st1, st2, lkill, lset, fvv, sfv, kind3, cat1, retI, retA, List.length_cons, List.length_nil, true_and, and_true, or_true, true_or, qX9_leastCost, if_neg hb2, not_true_eq_false, not_false_eq_true, false_implies, true_and, and_true, tti]
      refine rX9_leastCost_79 ?_
      simp only [bX9_leastCost_79, run, Nat.reduceAdd, lg, st1, st2, lkill, lset, fvv, sfv, kind3, cat1, retI, retA, List.length_cons, List.length_nil, true_and, and_true, or_true, true_or, qX9_leastCost, kL, kI, kD, kR, rL, rI, rD, iL, iD, iR, lI, lD, lR, c1, f9, kc1, t1, t2, km, kp, zI_sI, up1_s, not_true_eq_false, not_false_eq_true, false_implies, true_and, and_true, tti]
      exact ⟨vp, vm, vp, z⟩
  · refine rX9_leastCost_13 ?_
    simp only [bX9_leastCost_13, run, Nat.reduceAdd, lg, st1, st2, lkill, lset, fvv, sfv, kind3, cat1, retI, retA, List.length_cons, List.length_nil, true_and, and_true, or_true, true_or, qX9_leastCost, nI_add, c1, f9, f4, kc1, t1, t2, km, kp, kv, ne2, not_true_eq_false, not_false_eq_true, false_implies, true_and, and_true, tti]
    refine ⟨vm, vp, ?_⟩
    refine rX9_leastCost_81 ?_
    simp only [bX9_leastCost_81, run, Nat.reduceAdd, lg, st1, st2, lkill, lset, fvv, sfv, kind3, cat1, retI, retA, List.length_cons, List.length_nil, true_and, and_true, or_true, true_or, qX9_leastCost, c1, f9, kc1, t1, t2, km, kp, kv, not_true_eq_false, not_false_eq_true, false_implies, true_and, and_true, tti]
    exact ⟨vm, vp, hq h ⟨rfl, rfl, Kp.rf⟩ hf⟩
