/-! ===== what is asked of a lexicon ===== -/
theorem e_wordOf {g : Gp} {x b l m : Nat} {c : Cell3} {h : AH} {Q : PQ} (hx : LxS h x b) (hl : l < 10) (hm : m < 12) (hc : CR h b (l * 12 + m) c) (hq : Q (.inl (some (vL (eC c.1)))) h) : Ev g mX4_wordOf [vR x, vI (nI l), vI (nI m)] h Q := by
  obtain ⟨a1, a2, a3, a4, a5, a6, a7, a8, a9, a10, a11, a12, a13⟩ := hx
  refine nX4_wordOf ?_
  have kk : (nI (l * 12 + m)).toNatClampNeg = l * 12 + m := nI_clamp (by omega)
  refine rX4_wordOf_0 ?_
  simp only [bX4_wordOf_0, run, Nat.reduceAdd, lg, st1, st2, lkill, lset, fvv, sfv, kind3, cat1, retI, retA, List.length_cons, List.length_nil, true_and, and_true, or_true, true_or, qX4_wordOf, a1, a4, not_true_eq_false, not_false_eq_true, false_implies, true_and, and_true, tti]
  refine sX4_wordOf_6 (e_cell ?_)
  simp only [cont, Option.toList, List.cons_append, List.nil_append]
  refine rX4_wordOf_9 ?_
  simp only [bX4_wordOf_9, run, Nat.reduceAdd, lg, st1, st2, lkill, lset, fvv, sfv, kind3, cat1, retI, retA, List.length_cons, List.length_nil, true_and, and_true, or_true, true_or, qX4_wordOf, a8, kk, hc.1, not_true_eq_false, not_false_eq_true, false_implies, true_and, and_true, tti]
  exact ⟨vp_in_nI (by omega) (by omega), hq⟩
theorem e_originOf {g : Gp} {x b l m : Nat} {c : Cell3} {h : AH} {Q : PQ} (hx : LxS h x b) (hl : l < 10) (hm : m < 12) (hc : CR h b (l * 12 + m) c) (hq : Q (.inl (some (vI (bI c.2.1)))) h) : Ev g mX4_originOf [vR x, vI (nI l), vI (nI m)] h Q := by
  obtain ⟨a1, a2, a3, a4, a5, a6, a7, a8, a9, a10, a11, a12, a13⟩ := hx
  refine nX4_originOf ?_
  have kk : (nI (l * 12 + m)).toNatClampNeg = l * 12 + m := nI_clamp (by omega)
  refine rX4_originOf_0 ?_
  simp only [bX4_originOf_0, run, Nat.reduceAdd, lg, st1, st2, lkill, lset, fvv, sfv, kind3, cat1, retI, retA, List.length_cons, List.length_nil, true_and, and_true, or_true, true_or, qX4_originOf, a1, a5, not_true_eq_false, not_false_eq_true, false_implies, true_and, and_true, tti]
  refine sX4_originOf_6 (e_cell ?_)
  simp only [cont, Option.toList, List.cons_append, List.nil_append]
  refine rX4_originOf_9 ?_
  simp only [bX4_originOf_9, run, Nat.reduceAdd, lg, st1, st2, lkill, lset, fvv, sfv, kind3, cat1, retI, retA, List.length_cons, List.length_nil, true_and, and_true, or_true, true_or, qX4_originOf, a9, kk, hc.2.1, not_true_eq_false, not_false_eq_true, false_implies, true_and, and_true, tti]
  exact ⟨vp_in_nI (by omega) (by omega), hq⟩
theorem e_changersOf {g : Gp} {x b l m : Nat} {c : Cell3} {h : AH} {Q : PQ} (hx : LxS h x b) (hl : l < 10) (hm : m < 12) (hc : CR h b (l * 12 + m) c) (hq : Q (.inl (some (vI (nI c.2.2)))) h) : Ev g mX4_changersOf [vR x, vI (nI l), vI (nI m)] h Q := by
  obtain ⟨a1, a2, a3, a4, a5, a6, a7, a8, a9, a10, a11, a12, a13⟩ := hx
  refine nX4_changersOf ?_
  have kk : (nI (l * 12 + m)).toNatClampNeg = l * 12 + m := nI_clamp (by omega)
  refine rX4_changersOf_0 ?_
  simp only [bX4_changersOf_0, run, Nat.reduceAdd, lg, st1, st2, lkill, lset, fvv, sfv, kind3, cat1, retI, retA, List.length_cons, List.length_nil, true_and, and_true, or_true, true_or, qX4_changersOf, a1, a6, not_true_eq_false, not_false_eq_true, false_implies, true_and, and_true, tti]
  refine sX4_changersOf_6 (e_cell ?_)
  simp only [cont, Option.toList, List.cons_append, List.nil_append]
  refine rX4_changersOf_9 ?_
  simp only [bX4_changersOf_9, run, Nat.reduceAdd, lg, st1, st2, lkill, lset, fvv, sfv, kind3, cat1, retI, retA, List.length_cons, List.length_nil, true_and, and_true, or_true, true_or, qX4_changersOf, a10, kk, hc.2.2, not_true_eq_false, not_false_eq_true, false_implies, true_and, and_true, tti]
  exact ⟨vp_in_nI (by omega) (by omega), hq⟩
theorem e_bothHave {g : Gp} {x b l k m : Nat} {c d : Cell3} {h : AH} {Q : PQ} (hx : LxS h x b) (hl : l < 10) (hk : k < 10) (hm : m < 12) (hc : CR h b (l * 12 + m) c) (hd : CR h b (k * 12 + m) d) (wc : Wok c.1) (wd : Wok d.1) (hq : Q (.inl (some (vI (if ¬ c.1 = [] ∧ ¬ d.1 = [] then 1 else 0)))) h) : Ev g mX4_bothHave [vR x, vI (nI m), vI (nI l), vI (nI k)] h Q := by
  refine nX4_bothHave ?_
  have no : ¬ (¬ c.1 = [] ∧ ¬ d.1 = []) → Ex g mX4_bothHave 22 [vR x, vI (nI m), vI (nI l), vI (nI k)] [] h (0, 0) Q := by
    intro h0
    rw [if_neg h0] at hq
    refine rX4_bothHave_22 ?_
    simp only [bX4_bothHave_22, run, Nat.reduceAdd, lg, st1, st2, lkill, lset, fvv, sfv, kind3, cat1, retI, retA, List.length_cons, List.length_nil, true_and, and_true, or_true, true_or, qX4_bothHave]
    exact hq
  refine rX4_bothHave_0 ?_
  simp only [bX4_bothHave_0, run, Nat.reduceAdd, lg, st1, st2, lkill, lset, fvv, sfv, kind3, cat1, retI, retA, List.length_cons, List.length_nil, true_and, and_true, or_true, true_or, qX4_bothHave]
  refine sX4_bothHave_3 hx.1 (e_hasWord hx wc hl hm hc.1 ?_)
  simp only [cont, Option.toList, List.cons_append, List.nil_append]
  by_cases e1 : c.1 = []
  · refine rX4_bothHave_6 ?_
    simp only [bX4_bothHave_6, run, Nat.reduceAdd, lg, st1, st2, lkill, lset, fvv, sfv, kind3, cat1, retI, retA, List.length_cons, List.length_nil, true_and, and_true, or_true, true_or, qX4_bothHave, if_pos e1, not_true_eq_false, not_false_eq_true, false_implies, true_and, and_true, tti]
    exact no fun q => q.1 e1
  · refine rX4_bothHave_6 ?_
    simp only [bX4_bothHave_6, run, Nat.reduceAdd, lg, st1, st2, lkill, lset, fvv, sfv, kind3, cat1, retI, retA, List.length_cons, List.length_nil, true_and, and_true, or_true, true_or, qX4_bothHave, if_neg e1, show ¬ (1 : Int32) = 0 by decide, not_true_eq_false, not_false_eq_true, false_implies, true_and, and_true, tti]
    refine sX4_bothHave_12 hx.1 (e_hasWord hx wd hk hm hd.1 ?_)
    simp only [cont, Option.toList, List.cons_append, List.nil_append]
    by_cases e2 : d.1 = []
    · refine rX4_bothHave_15 ?_
      simp only [bX4_bothHave_15, run, Nat.reduceAdd, lg, st1, st2, lkill, lset, fvv, sfv, kind3, cat1, retI, retA, List.length_cons, List.length_nil, true_and, and_true, or_true, true_or, qX4_bothHave, if_pos e2, not_true_eq_false, not_false_eq_true, false_implies, true_and, and_true, tti]
      exact no fun q => q.2 e2
    · refine rX4_bothHave_15 ?_
      simp only [bX4_bothHave_15, run, Nat.reduceAdd, lg, st1, st2, lkill, lset, fvv, sfv, kind3, cat1, retI, retA, List.length_cons, List.length_nil, true_and, and_true, or_true, true_or, qX4_bothHave, if_neg e2, show ¬ (1 : Int32) = 0 by decide, not_true_eq_false, not_false_eq_true, false_implies, true_and, and_true, tti]
      rw [if_pos ⟨e1, e2⟩] at hq
      exact hq
theorem bI_inj {a b : Nat} (ha : a < 2 ^ 30) (hb : b < 2 ^ 30) : bI a = bI b ↔ a = b := by
  refine ⟨fun e => ?_, fun e => by rw [e]⟩
  cases a with
  | zero => cases b with
    | zero => rfl
    | succ b => rw [bI_s, bI_0] at e; exact absurd e.symm (nI_m1 (by omega))
  | succ a => cases b with
    | zero => rw [bI_s, bI_0] at e; exact absurd e (nI_m1 (by omega))
    | succ b => rw [bI_s, bI_s] at e; rw [(nI_eq (by omega) (by omega)).mp e]
/-- both have a word, of one origin -/
abbrev kin (c d : Cell3) : Prop := ¬ c.1 = [] ∧ ¬ d.1 = [] ∧ c.2.1 = d.2.1
theorem e_areKin {g : Gp} {x b l k m : Nat} {c d : Cell3} {h : AH} {Q : PQ} (hx : LxS h x b) (hl : l < 10) (hk : k < 10) (hm : m < 12) (hc : CR h b (l * 12 + m) c) (hd : CR h b (k * 12 + m) d) (wc : cOk 12 9 c) (wd : cOk 12 9 d) (hq : Q (.inl (some (vI (if kin c d then 1 else 0)))) h) : Ev g mX4_areKin [vR x, vI (nI m), vI (nI l), vI (nI k)] h Q := by
  refine nX4_areKin ?_
  have no : ¬ kin c d → Ex g mX4_areKin 37 [vR x, vI (nI m), vI (nI l), vI (nI k)] [] h (0, 0) Q := by
    intro h0
    rw [if_neg h0] at hq
    refine rX4_areKin_37 ?_
    simp only [bX4_areKin_37, run, Nat.reduceAdd, lg, st1, st2, lkill, lset, fvv, sfv, kind3, cat1, retI, retA, List.length_cons, List.length_nil, true_and, and_true, or_true, true_or, qX4_areKin]
    exact hq
  refine rX4_areKin_0 ?_
  simp only [bX4_areKin_0, run, Nat.reduceAdd, lg, st1, st2, lkill, lset, fvv, sfv, kind3, cat1, retI, retA, List.length_cons, List.length_nil, true_and, and_true, or_true, true_or, qX4_areKin]
  refine sX4_areKin_3 hx.1 (e_hasWord hx wc.1 hl hm hc.1 ?_)
  simp only [cont, Option.toList, List.cons_append, List.nil_append]
  by_cases e1 : c.1 = []
  · refine rX4_areKin_6 ?_
    simp only [bX4_areKin_6, run, Nat.reduceAdd, lg, st1, st2, lkill, lset, fvv, sfv, kind3, cat1, retI, retA, List.length_cons, List.length_nil, true_and, and_true, or_true, true_or, qX4_areKin, if_pos e1, not_true_eq_false, not_false_eq_true, false_implies, true_and, and_true, tti]
    exact no fun q => q.1 e1
  · refine rX4_areKin_6 ?_
    simp only [bX4_areKin_6, run, Nat.reduceAdd, lg, st1, st2, lkill, lset, fvv, sfv, kind3, cat1, retI, retA, List.length_cons, List.length_nil, true_and, and_true, or_true, true_or, qX4_areKin, if_neg e1, show ¬ (1 : Int32) = 0 by decide, not_true_eq_false, not_false_eq_true, false_implies, true_and, and_true, tti]
    refine sX4_areKin_12 hx.1 (e_hasWord hx wd.1 hk hm hd.1 ?_)
    simp only [cont, Option.toList, List.cons_append, List.nil_append]
    by_cases e2 : d.1 = []
    · refine rX4_areKin_15 ?_
      simp only [bX4_areKin_15, run, Nat.reduceAdd, lg, st1, st2, lkill, lset, fvv, sfv, kind3, cat1, retI, retA, List.length_cons, List.length_nil, true_and, and_true, or_true, true_or, qX4_areKin, if_pos e2, not_true_eq_false, not_false_eq_true, false_implies, true_and, and_true, tti]
      exact no fun q => q.2.1 e2
    · refine rX4_areKin_15 ?_
      simp only [bX4_areKin_15, run, Nat.reduceAdd, lg, st1, st2, lkill, lset, fvv, sfv, kind3, cat1, retI, retA, List.length_cons, List.length_nil, true_and, and_true, or_true, true_or, qX4_areKin, if_neg e2, show ¬ (1 : Int32) = 0 by decide, not_true_eq_false, not_false_eq_true, false_implies, true_and, and_true, tti]
      refine sX4_areKin_21 hx.1 (e_originOf hx hl hm hc ?_)
      simp only [cont, Option.toList, List.cons_append, List.nil_append]
      refine rX4_areKin_24 ?_
      simp only [bX4_areKin_24, run, Nat.reduceAdd, lg, st1, st2, lkill, lset, fvv, sfv, kind3, cat1, retI, retA, List.length_cons, List.length_nil, true_and, and_true, or_true, true_or, qX4_areKin]
      refine sX4_areKin_27 hx.1 (e_originOf hx hk hm hd ?_)
      simp only [cont, Option.toList, List.cons_append, List.nil_append]
      have k1 := wc.2.1
      have k2 := wd.2.1
      have hi := bI_inj (a := c.2.1) (b := d.2.1) (by omega) (by omega)
      refine rX4_areKin_30 ?_
      simp only [bX4_areKin_30, run, Nat.reduceAdd, lg, st1, st2, lkill, lset, fvv, sfv, kind3, cat1, retI, retA, List.length_cons, List.length_nil, true_and, and_true, or_true, true_or, qX4_areKin]
      refine bn_c (fun q => no fun z => q (hi.mpr z.2.2)) fun q => ?_
      rw [if_pos ⟨e1, e2, hi.mp q⟩] at hq
      exact hq
theorem e_forget {g : Gp} {x b m : Nat} {h : AH} {Q : PQ} (hx : LxS h x b) (hm : m < 12) (hq : Q (.inl none) (sI h (b + 3) m 0)) : Ev g mX4_forget [vR x, vI (nI m)] h Q := by
  obtain ⟨a1, a2, a3, a4, a5, a6, a7, a8, a9, a10, a11, a12, a13⟩ := hx
  refine nX4_forget ?_
  have km : (nI m).toNatClampNeg = m := nI_clamp (by omega)
  refine rX4_forget_0 ?_
  simp only [bX4_forget_0, run, Nat.reduceAdd, lg, st1, st2, lkill, lset, fvv, sfv, kind3, cat1, retI, retA, List.length_cons, List.length_nil, true_and, and_true, or_true, true_or, qX4_forget, a1, a7, a11, km, not_true_eq_false, not_false_eq_true, false_implies, true_and, and_true, tti]
  exact ⟨vp_in_nI (by omega) (by omega), hq⟩
theorem e_tellOf {g : Gp} {x b y : Nat} {h : AH} {Q : PQ} (hx : LxS h x b) (hy : zK h y = (1, 2)) (hq : ∀ h', Kp (fun a => a = x ∨ a = b + 3) h h' → LxS h' x b → zR h' x 0 = y → (∀ m, m < 12 → zI h' (b + 3) m = 0) → Q (.inl none) h') : Ev g mX4_tellOf [vR x, vR y] h Q := by
  obtain ⟨a1, a2, a3, a4, a5, a6, a7, a8, a9, a10, a11, a12, a13⟩ := hx
  refine nX4_tellOf ?_
  have e0 : ∀ j, j ≠ 0 → zR (sR h x 0 y) x j = zR h x j := fun j hj => by rw [zR_sR, up1_n _ _ hj]
  have lp : ∀ d m h2, m + d = 12 → Kp (fun a => a = x ∨ a = b + 3) h h2 → zK h2 = zK h → zR h2 = zR (sR h x 0 y) → (∀ j, j < m → zI h2 (b + 3) j = 0) → Ex g mX4_tellOf 7 [vR x, vR y, vI (nI m)] [] h2 (0, 0) Q := by
    intro d
    induction d with
    | zero =>
      intro m h2 hn kp ek er z
      have e : m = 12 := by omega
      subst e
      refine rX4_tellOf_7 ?_
      simp only [bX4_tellOf_7, run, Nat.reduceAdd, lg, st1, st2, lkill, lset, fvv, sfv, kind3, cat1, retI, retA, List.length_cons, List.length_nil, true_and, and_true, or_true, true_or, qX4_tellOf, show ((12 : Int32) ≤ nI 12) = True by decide, not_true_eq_false, not_false_eq_true, false_implies, true_and, and_true, tti]
      refine rX4_tellOf_26 ?_
      simp only [bX4_tellOf_26, run, Nat.reduceAdd, lg, st1, st2, lkill, lset, fvv, sfv, kind3, cat1, retI, retA, List.length_cons, List.length_nil, true_and, and_true, or_true, true_or, qX4_tellOf]
      refine hq _ kp ?_ (by rw [er, zR_sR, up1_s]) z
      unfold LxS
      rw [ek, er, e0 1 (by decide), e0 2 (by decide), e0 3 (by decide), e0 4 (by decide), e0 5 (by decide), e0 6 (by decide)]
      exact ⟨a1, a2, a3, a4, a5, a6, a7, a8, a9, a10, a11, a12, a13⟩
    | succ d ih =>
      intro m h2 hn kp ek er z
      have nle : (12 : Int32) ≤ nI m ↔ False := ⟨nI_ge (b := 12) (by omega) (by omega), False.elim⟩
      have km : (nI m).toNatClampNeg = m := nI_clamp (by omega)
      refine rX4_tellOf_7 ?_
      simp only [bX4_tellOf_7, run, Nat.reduceAdd, lg, st1, st2, lkill, lset, fvv, sfv, kind3, cat1, retI, retA, List.length_cons, List.length_nil, true_and, and_true, or_true, true_or, qX4_tellOf, nle, ek, er, e0 6 (by decide), a1, a7, a11, km, not_true_eq_false, not_false_eq_true, false_implies, true_and, and_true, tti]
      rw [nI_1]
      refine ⟨vp_in_nI (by omega) (by omega), ih (m + 1) _ (by omega) (kp.tr (Kp.sI (Or.inr rfl))) ek er fun j hj => ?_⟩
      rw [zI_sI]
      by_cases e : j = m
      · rw [e, up1_s]
      · rw [up1_n _ _ e]; exact z j (by omega)
  refine rX4_tellOf_0 ?_
  simp only [bX4_tellOf_0, run, Nat.reduceAdd, lg, st1, st2, lkill, lset, fvv, sfv, kind3, cat1, retI, retA, List.length_cons, List.length_nil, true_and, and_true, or_true, true_or, qX4_tellOf, a1, not_true_eq_false, not_false_eq_true, false_implies, true_and, and_true, tti]
  exact lp 12 0 _ rfl (Kp.sR (Or.inl rfl)) rfl rfl fun j hj => absurd hj (Nat.not_lt_zero _)
