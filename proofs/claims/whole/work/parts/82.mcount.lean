/-! ===== the model counts ===== -/
theorem e_mwealthOf {g : Gp} {l : Nat} {h : AH} {Q : PQ} {f : Nat → Nat} {gv : Nat → List Nat} {op : Nat} {D : HD} (md : MdA h f gv op D) (hl : l < D.1) (hq : Q (.inl (some (vI (nI (wlt D f gv l 12))))) h) : Ev g mX10_wealthOf [vR 99, vI (nI l)] h Q := by
  have hD1 := md.1.ok.2.1
  refine nX10_wealthOf ?_
  have lp : ∀ d m, m + d = 12 → Ex g mX10_wealthOf 4 [vR 99, vI (nI l), vI (nI (wlt D f gv l m)), vI (nI m)] [] h (0, 0) Q := by
    intro d
    induction d with
    | zero =>
      intro m hm
      have e : m = 12 := by omega
      subst e
      refine rX10_wealthOf_4 ?_
      simp only [bX10_wealthOf_4, run, Nat.reduceAdd, lg, st1, st2, lkill, lset, fvv, sfv, kind3, cat1, retI, retA, List.length_cons, List.length_nil, true_and, and_true, or_true, true_or, qX10_wealthOf, show ((12 : Int32) ≤ nI 12) = True by decide, not_true_eq_false, not_false_eq_true, false_implies, true_and, and_true, tti]
      refine rX10_wealthOf_33 ?_
      simp only [bX10_wealthOf_33, run, Nat.reduceAdd, lg, st1, st2, lkill, lset, fvv, sfv, kind3, cat1, retI, retA, List.length_cons, List.length_nil, true_and, and_true, or_true, true_or, qX10_wealthOf]
      exact hq
    | succ d ih =>
      intro m hm
      have z := ih (m + 1) (by omega)
      unfold wlt at z
      refine rX10_wealthOf_4 ?_
      simp only [bX10_wealthOf_4, run, Nat.reduceAdd, lg, st1, st2, lkill, lset, fvv, sfv, kind3, cat1, retI, retA, List.length_cons, List.length_nil, true_and, and_true, or_true, true_or, qX10_wealthOf, show ((12 : Int32) ≤ nI m) ↔ False from ⟨nI_ge (b := 12) (by omega) (by omega), False.elim⟩, not_true_eq_false, not_false_eq_true, false_implies, true_and, and_true, tti]
      refine sX10_wealthOf_14 md.1.1.1 (e_mhasWord md.1.1 (by omega) (by omega) (md.wk (by omega) hl).1 (md.2 l hl m (by omega)) ?_)
      simp only [cont, Option.toList, List.cons_append, List.nil_append]
      by_cases hw : (cel D f gv m l).1 = []
      · rw [if_pos hw] at z
        refine rX10_wealthOf_17 ?_
        simp only [bX10_wealthOf_17, run, Nat.reduceAdd, lg, st1, st2, lkill, lset, fvv, sfv, kind3, cat1, retI, retA, List.length_cons, List.length_nil, true_and, and_true, or_true, true_or, qX10_wealthOf, if_pos hw, not_true_eq_false, not_false_eq_true, false_implies, true_and, and_true, tti]
        refine rX10_wealthOf_24 ?_
        simp only [bX10_wealthOf_24, run, Nat.reduceAdd, lg, st1, st2, lkill, lset, fvv, sfv, kind3, cat1, retI, retA, List.length_cons, List.length_nil, true_and, and_true, or_true, true_or, qX10_wealthOf, show nI (wlt D f gv l m) + 0 = nI (wlt D f gv l m) from nI_add _ 0, nI_1]
        exact z
      · rw [if_neg hw] at z
        refine rX10_wealthOf_17 ?_
        simp only [bX10_wealthOf_17, run, Nat.reduceAdd, lg, st1, st2, lkill, lset, fvv, sfv, kind3, cat1, retI, retA, List.length_cons, List.length_nil, true_and, and_true, or_true, true_or, qX10_wealthOf, if_neg hw, show ¬ (1 : Int32) = 0 by decide, nI_1, not_true_eq_false, not_false_eq_true, false_implies, true_and, and_true, tti]
        exact z
  refine rX10_wealthOf_0 ?_
  simp only [bX10_wealthOf_0, run, Nat.reduceAdd, lg, st1, st2, lkill, lset, fvv, sfv, kind3, cat1, retI, retA, List.length_cons, List.length_nil, true_and, and_true, or_true, true_or, qX10_wealthOf]
  exact lp 12 0 rfl
theorem e_mwealth {g : Gp} {x : Int32} {h : AH} {Q : PQ} {f : Nat → Nat} {gv : Nat → List Nat} {op : Nat} {D : HD} (hf : ModR h f gv op D)
    (hq : ∀ l, l < D.1 → x = nI l → ∀ h', Ms h h' → zI h' 99 0 = 0 → Q (.inl (some (vI (nI (wlt D f gv l 12))))) h')
    (hx : inb x D.1 = false → ∀ h', Ms h h' → zI h' 99 0 = 1 → Q (.inl (some (vI 0))) h') : Ev g mX10_wealth [vR 99, vI x] h Q := by
  refine nX10_wealth ?_
  refine rX10_wealth_0 ?_
  simp only [bX10_wealth_0, run, Nat.reduceAdd, lg, st1, st2, lkill, lset, fvv, sfv, kind3, cat1, retI, retA, List.length_cons, List.length_nil, true_and, and_true, or_true, true_or, qX10_wealth]
  refine sX10_wealth_3 hf.1.1 (e_isAsked (y := 0) hf (fun l m hl hm ex ey h2 y2 md t => ?_) fun e h2 y2 t => ?_)
  · simp only [cont, Option.toList, List.cons_append, List.nil_append]
    subst ex
    refine rX10_wealth_6 ?_
    simp only [bX10_wealth_6, run, Nat.reduceAdd, lg, st1, st2, lkill, lset, fvv, sfv, kind3, cat1, retI, retA, List.length_cons, List.length_nil, true_and, and_true, or_true, true_or, qX10_wealth, show ¬ (1 : Int32) = 0 by decide, not_true_eq_false, not_false_eq_true, false_implies, true_and, and_true, tti]
    refine sX10_wealth_11 md.1.1.1 (e_mwealthOf md hl ?_)
    simp only [cont, Option.toList, List.cons_append, List.nil_append]
    refine rX10_wealth_14 ?_
    simp only [bX10_wealth_14, run, Nat.reduceAdd, lg, st1, st2, lkill, lset, fvv, sfv, kind3, cat1, retI, retA, List.length_cons, List.length_nil, true_and, and_true, or_true, true_or, qX10_wealth]
    exact hq l hl rfl h2 y2 t
  · simp only [cont, Option.toList, List.cons_append, List.nil_append]
    rw [show inb 0 12 = true by decide, Bool.and_true] at e
    refine rX10_wealth_6 ?_
    simp only [bX10_wealth_6, run, Nat.reduceAdd, lg, st1, st2, lkill, lset, fvv, sfv, kind3, cat1, retI, retA, List.length_cons, List.length_nil, true_and, and_true, or_true, true_or, qX10_wealth, not_true_eq_false, not_false_eq_true, false_implies, true_and, and_true, tti]
    refine rX10_wealth_17 ?_
    simp only [bX10_wealth_17, run, Nat.reduceAdd, lg, st1, st2, lkill, lset, fvv, sfv, kind3, cat1, retI, retA, List.length_cons, List.length_nil, true_and, and_true, or_true, true_or, qX10_wealth]
    exact hx e h2 y2 t
theorem e_malikeIn {g : Gp} {l : Nat} {h : AH} {Q : PQ} {f : Nat → Nat} {gv : Nat → List Nat} {op : Nat} {D : HD} (md : MdA h f gv op D) (hl : l < D.1) (hq : Q (.inl (some (vI (nI (alk (fun m => (cel D f gv m l).1) 12))))) h) : Ev g mX10_alikeIn [vR 99, vI (nI l)] h Q := by
  have hD1 := md.1.ok.2.1
  rw [alk_tri] at hq
  refine nX10_alikeIn ?_
  have lp : ∀ d m, m + d = 12 → ∀ z : AV, Ex g mX10_alikeIn 4 [vR 99, vI (nI l), vI (nI (sm (fun m => sm (fun o => bq (fun m => (cel D f gv m l).1) m o) m) m)), vI (nI m), z] [] h (0, 0) Q := by
    intro d
    induction d with
    | zero =>
      intro m hm z
      have e : m = 12 := by omega
      subst e
      refine rX10_alikeIn_4 ?_
      simp only [bX10_alikeIn_4, run, Nat.reduceAdd, lg, st1, st2, lkill, lset, fvv, sfv, kind3, cat1, retI, retA, List.length_cons, List.length_nil, true_and, and_true, or_true, true_or, qX10_alikeIn, show ((12 : Int32) ≤ nI 12) = True by decide, not_true_eq_false, not_false_eq_true, false_implies, true_and, and_true, tti]
      refine rX10_alikeIn_65 ?_
      simp only [bX10_alikeIn_65, run, Nat.reduceAdd, lg, st1, st2, lkill, lset, fvv, sfv, kind3, cat1, retI, retA, List.length_cons, List.length_nil, true_and, and_true, or_true, true_or, qX10_alikeIn]
      exact hq
    | succ d ih =>
      intro m hm z
      have nx := ih (m + 1) (by omega)
      rw [sm] at nx
      generalize sm (fun m => sm (fun o => bq (fun m => (cel D f gv m l).1) m o) m) m = c at nx
      have wm := md.wk (m := m) (by omega) hl
      have cm := md.2 l hl m (by omega)
      have inner : ∀ d k, k + d = m → Ex g mX10_alikeIn 13 [vR 99, vI (nI l), vI (nI (c + sm (fun o => bq (fun m => (cel D f gv m l).1) m o) k)), vI (nI m), vI (nI k)] [] h (0, 0) Q := by
        intro d
        induction d with
        | zero =>
          intro k hk
          have e : k = m := by omega
          subst e
          refine rX10_alikeIn_13 ?_
          simp only [bX10_alikeIn_13, run, Nat.reduceAdd, lg, st1, st2, lkill, lset, fvv, sfv, kind3, cat1, retI, retA, List.length_cons, List.length_nil, true_and, and_true, or_true, true_or, qX10_alikeIn, show nI k ≤ nI k ↔ True from ⟨fun _ => trivial, fun _ => nI_le (Nat.le_refl _) (by omega)⟩, not_true_eq_false, not_false_eq_true, false_implies, true_and, and_true, tti]
          refine rX10_alikeIn_59 ?_
          simp only [bX10_alikeIn_59, run, Nat.reduceAdd, lg, st1, st2, lkill, lset, fvv, sfv, kind3, cat1, retI, retA, List.length_cons, List.length_nil, true_and, and_true, or_true, true_or, qX10_alikeIn, nI_1]
          exact nx _
        | succ d ih2 =>
          intro k hk
          have n2 := ih2 (k + 1) (by omega)
          rw [sm] at n2
          have wo := (md.wk (m := k) (by omega) hl).1
          have co := md.2 l hl k (by omega)
          have key := wM_inj wm.1 wo
          refine rX10_alikeIn_13 ?_
          simp only [bX10_alikeIn_13, run, Nat.reduceAdd, lg, st1, st2, lkill, lset, fvv, sfv, kind3, cat1, retI, retA, List.length_cons, List.length_nil, true_and, and_true, or_true, true_or, qX10_alikeIn, show nI m ≤ nI k ↔ False from ⟨nI_ge (by omega) (by omega), False.elim⟩, not_true_eq_false, not_false_eq_true, false_implies, true_and, and_true, tti]
          refine sX10_alikeIn_23 md.1.1.1 (e_mhasWord md.1.1 (by omega) (by omega) wm.1 cm ?_)
          simp only [cont, Option.toList, List.cons_append, List.nil_append]
          have no : ¬ (¬ (cel D f gv m l).1 = [] ∧ (cel D f gv m l).1 = (cel D f gv k l).1) → Ex g mX10_alikeIn 50 [vR 99, vI (nI l), vI (nI (c + sm (fun o => bq (fun m => (cel D f gv m l).1) m o) k)), vI (nI m), vI (nI k)] [vI (nI (c + sm (fun o => bq (fun m => (cel D f gv m l).1) m o) k))] h (0, 0) Q := fun q => by
            rw [show bq (fun m => (cel D f gv m l).1) m k = 0 from if_neg q, Nat.add_zero] at n2
            refine rX10_alikeIn_50 ?_
            simp only [bX10_alikeIn_50, run, Nat.reduceAdd, lg, st1, st2, lkill, lset, fvv, sfv, kind3, cat1, retI, retA, List.length_cons, List.length_nil, true_and, and_true, or_true, true_or, qX10_alikeIn, show nI (c + sm (fun o => bq (fun m => (cel D f gv m l).1) m o) k) + 0 = nI (c + sm (fun o => bq (fun m => (cel D f gv m l).1) m o) k) from nI_add _ 0, nI_1]
            exact n2
          by_cases hw : (cel D f gv m l).1 = []
          · refine rX10_alikeIn_26 ?_
            simp only [bX10_alikeIn_26, run, Nat.reduceAdd, lg, st1, st2, lkill, lset, fvv, sfv, kind3, cat1, retI, retA, List.length_cons, List.length_nil, true_and, and_true, or_true, true_or, qX10_alikeIn, if_pos hw, not_true_eq_false, not_false_eq_true, false_implies, true_and, and_true, tti]
            exact no fun q => q.1 hw
          · refine rX10_alikeIn_26 ?_
            simp only [bX10_alikeIn_26, run, Nat.reduceAdd, lg, st1, st2, lkill, lset, fvv, sfv, kind3, cat1, retI, retA, List.length_cons, List.length_nil, true_and, and_true, or_true, true_or, qX10_alikeIn, if_neg hw, show ¬ (1 : Int32) = 0 by decide, not_true_eq_false, not_false_eq_true, false_implies, true_and, and_true, tti]
            refine sX10_alikeIn_32 md.1.1.1 (e_mwordOf md.1.1 (by omega) (by omega) cm ?_)
            simp only [cont, Option.toList, List.cons_append, List.nil_append]
            refine rX10_alikeIn_35 ?_
            simp only [bX10_alikeIn_35, run, Nat.reduceAdd, lg, st1, st2, lkill, lset, fvv, sfv, kind3, cat1, retI, retA, List.length_cons, List.length_nil, true_and, and_true, or_true, true_or, qX10_alikeIn]
            refine sX10_alikeIn_39 md.1.1.1 (e_mwordOf md.1.1 (by omega) (by omega) co ?_)
            simp only [cont, Option.toList, List.cons_append, List.nil_append]
            by_cases same : (cel D f gv m l).1 = (cel D f gv k l).1
            · rw [show bq (fun m => (cel D f gv m l).1) m k = 1 from if_pos ⟨hw, same⟩, ← Nat.add_assoc] at n2
              refine rX10_alikeIn_42 ?_
              simp only [bX10_alikeIn_42, run, Nat.reduceAdd, lg, st1, st2, lkill, lset, fvv, sfv, kind3, cat1, retI, retA, List.length_cons, List.length_nil, true_and, and_true, or_true, true_or, qX10_alikeIn, lg_cmp_eq, show wM (cel D f gv m l).1 = wM (cel D f gv k l).1 ↔ True from ⟨fun _ => trivial, fun _ => key.mpr same⟩, nI_1, not_true_eq_false, not_false_eq_true, false_implies, true_and, and_true, tti]
              exact n2
            · refine rX10_alikeIn_42 ?_
              simp only [bX10_alikeIn_42, run, Nat.reduceAdd, lg, st1, st2, lkill, lset, fvv, sfv, kind3, cat1, retI, retA, List.length_cons, List.length_nil, true_and, and_true, or_true, true_or, qX10_alikeIn, lg_cmp_eq, show wM (cel D f gv m l).1 = wM (cel D f gv k l).1 ↔ False from ⟨fun q => same (key.mp q), False.elim⟩, not_true_eq_false, not_false_eq_true, false_implies, true_and, and_true, tti]
              exact no fun q => same q.2
      refine rX10_alikeIn_4 ?_
      simp only [bX10_alikeIn_4, run, Nat.reduceAdd, lg, st1, st2, lkill, lset, fvv, sfv, kind3, cat1, retI, retA, List.length_cons, List.length_nil, true_and, and_true, or_true, true_or, qX10_alikeIn, show ((12 : Int32) ≤ nI m) ↔ False from ⟨nI_ge (b := 12) (by omega) (by omega), False.elim⟩, not_true_eq_false, not_false_eq_true, false_implies, true_and, and_true, tti]
      exact inner m 0 (Nat.zero_add _)
  refine rX10_alikeIn_0 ?_
  simp only [bX10_alikeIn_0, run, Nat.reduceAdd, lg, st1, st2, lkill, lset, fvv, sfv, kind3, cat1, retI, retA, List.length_cons, List.length_nil, true_and, and_true, or_true, true_or, qX10_alikeIn]
  exact lp 12 0 rfl _
theorem e_malike {g : Gp} {x : Int32} {h : AH} {Q : PQ} {f : Nat → Nat} {gv : Nat → List Nat} {op : Nat} {D : HD} (hf : ModR h f gv op D)
    (hq : ∀ l, l < D.1 → x = nI l → ∀ h', Ms h h' → zI h' 99 0 = 0 → Q (.inl (some (vI (nI (alk (fun m => (cel D f gv m l).1) 12))))) h')
    (hx : inb x D.1 = false → ∀ h', Ms h h' → zI h' 99 0 = 1 → Q (.inl (some (vI 0))) h') : Ev g mX10_alike [vR 99, vI x] h Q := by
  refine nX10_alike ?_
  refine rX10_alike_0 ?_
  simp only [bX10_alike_0, run, Nat.reduceAdd, lg, st1, st2, lkill, lset, fvv, sfv, kind3, cat1, retI, retA, List.length_cons, List.length_nil, true_and, and_true, or_true, true_or, qX10_alike]
  refine sX10_alike_3 hf.1.1 (e_isAsked (y := 0) hf (fun l m hl hm ex ey h2 y2 md t => ?_) fun e h2 y2 t => ?_)
  · simp only [cont, Option.toList, List.cons_append, List.nil_append]
    subst ex
    refine rX10_alike_6 ?_
    simp only [bX10_alike_6, run, Nat.reduceAdd, lg, st1, st2, lkill, lset, fvv, sfv, kind3, cat1, retI, retA, List.length_cons, List.length_nil, true_and, and_true, or_true, true_or, qX10_alike, show ¬ (1 : Int32) = 0 by decide, not_true_eq_false, not_false_eq_true, false_implies, true_and, and_true, tti]
    refine sX10_alike_11 md.1.1.1 (e_malikeIn md hl ?_)
    simp only [cont, Option.toList, List.cons_append, List.nil_append]
    refine rX10_alike_14 ?_
    simp only [bX10_alike_14, run, Nat.reduceAdd, lg, st1, st2, lkill, lset, fvv, sfv, kind3, cat1, retI, retA, List.length_cons, List.length_nil, true_and, and_true, or_true, true_or, qX10_alike]
    exact hq l hl rfl h2 y2 t
  · simp only [cont, Option.toList, List.cons_append, List.nil_append]
    rw [show inb 0 12 = true by decide, Bool.and_true] at e
    refine rX10_alike_6 ?_
    simp only [bX10_alike_6, run, Nat.reduceAdd, lg, st1, st2, lkill, lset, fvv, sfv, kind3, cat1, retI, retA, List.length_cons, List.length_nil, true_and, and_true, or_true, true_or, qX10_alike, not_true_eq_false, not_false_eq_true, false_implies, true_and, and_true, tti]
    refine rX10_alike_17 ?_
    simp only [bX10_alike_17, run, Nat.reduceAdd, lg, st1, st2, lkill, lset, fvv, sfv, kind3, cat1, retI, retA, List.length_cons, List.length_nil, true_and, and_true, or_true, true_or, qX10_alike]
    exact hx e h2 y2 t
theorem e_msoundsIn {g : Gp} {l : Nat} {h : AH} {Q : PQ} {f : Nat → Nat} {gv : Nat → List Nat} {op : Nat} {D : HD} (md : MdA h f gv op D) (hl : l < D.1) (hq : Q (.inl (some (vI (nI (sos D f gv l 12))))) h) : Ev g mX10_soundsIn [vR 99, vI (nI l)] h Q := by
  have hD1 := md.1.ok.2.1
  refine nX10_soundsIn ?_
  have lp : ∀ d m, m + d = 12 → ∀ z : AV, Ex g mX10_soundsIn 4 [vR 99, vI (nI l), vI (nI (sos D f gv l m)), vI (nI m), z] [] h (0, 0) Q := by
    intro d
    induction d with
    | zero =>
      intro m hm z
      have e : m = 12 := by omega
      subst e
      refine rX10_soundsIn_4 ?_
      simp only [bX10_soundsIn_4, run, Nat.reduceAdd, lg, st1, st2, lkill, lset, fvv, sfv, kind3, cat1, retI, retA, List.length_cons, List.length_nil, true_and, and_true, or_true, true_or, qX10_soundsIn, show ((12 : Int32) ≤ nI 12) = True by decide, not_true_eq_false, not_false_eq_true, false_implies, true_and, and_true, tti]
      refine rX10_soundsIn_55 ?_
      simp only [bX10_soundsIn_55, run, Nat.reduceAdd, lg, st1, st2, lkill, lset, fvv, sfv, kind3, cat1, retI, retA, List.length_cons, List.length_nil, true_and, and_true, or_true, true_or, qX10_soundsIn]
      exact hq
    | succ d ih =>
      intro m hm z
      have nx := ih (m + 1) (by omega)
      unfold sos at nx
      have hm12 : m < 12 := by omega
      have wk := (md.wk hm12 hl).1
      have cr := md.2 l hl m hm12
      have wk1 := wk.1
      have inner : ∀ d p, p + d = (cel D f gv m l).1.length → Ex g mX10_soundsIn 13 [vR 99, vI (nI l), vI (nI (sow (cel D f gv m l).1 p (sos D f gv l m))), vI (nI m), vI (nI p)] [] h (0, 0) Q := by
        intro d
        induction d with
        | zero =>
          intro p hp
          have e : p = (cel D f gv m l).1.length := by omega
          subst e
          refine rX10_soundsIn_13 ?_
          simp only [bX10_soundsIn_13, run, Nat.reduceAdd, lg, st1, st2, lkill, lset, fvv, sfv, kind3, cat1, retI, retA, List.length_cons, List.length_nil, true_and, and_true, or_true, true_or, qX10_soundsIn]
          refine sX10_soundsIn_18 md.1.1.1 (e_mwordOf md.1.1 (by omega) hm12 cr ?_)
          simp only [cont, Option.toList, List.cons_append, List.nil_append]
          refine sX10_soundsIn_21 (e_mlen wk ?_)
          simp only [cont, Option.toList, List.cons_append, List.nil_append]
          refine rX10_soundsIn_24 ?_
          simp only [bX10_soundsIn_24, run, Nat.reduceAdd, lg, st1, st2, lkill, lset, fvv, sfv, kind3, cat1, retI, retA, List.length_cons, List.length_nil, true_and, and_true, or_true, true_or, qX10_soundsIn, show nI (cel D f gv m l).1.length ≤ nI (cel D f gv m l).1.length ↔ True from ⟨fun _ => trivial, fun _ => nI_le (Nat.le_refl _) (by omega)⟩, not_true_eq_false, not_false_eq_true, false_implies, true_and, and_true, tti]
          refine rX10_soundsIn_49 ?_
          simp only [bX10_soundsIn_49, run, Nat.reduceAdd, lg, st1, st2, lkill, lset, fvv, sfv, kind3, cat1, retI, retA, List.length_cons, List.length_nil, true_and, and_true, or_true, true_or, qX10_soundsIn, nI_1]
          exact nx _
        | succ d ih2 =>
          intro p hp
          have n2 := ih2 (p + 1) (by omega)
          unfold sow at n2
          have hat := wk.at p
          refine rX10_soundsIn_13 ?_
          simp only [bX10_soundsIn_13, run, Nat.reduceAdd, lg, st1, st2, lkill, lset, fvv, sfv, kind3, cat1, retI, retA, List.length_cons, List.length_nil, true_and, and_true, or_true, true_or, qX10_soundsIn]
          refine sX10_soundsIn_18 md.1.1.1 (e_mwordOf md.1.1 (by omega) hm12 cr ?_)
          simp only [cont, Option.toList, List.cons_append, List.nil_append]
          refine sX10_soundsIn_21 (e_mlen wk ?_)
          simp only [cont, Option.toList, List.cons_append, List.nil_append]
          refine rX10_soundsIn_24 ?_
          simp only [bX10_soundsIn_24, run, Nat.reduceAdd, lg, st1, st2, lkill, lset, fvv, sfv, kind3, cat1, retI, retA, List.length_cons, List.length_nil, true_and, and_true, or_true, true_or, qX10_soundsIn, show nI (cel D f gv m l).1.length ≤ nI p ↔ False from ⟨nI_ge (by omega) (by omega), False.elim⟩, not_true_eq_false, not_false_eq_true, false_implies, true_and, and_true, tti]
          refine sX10_soundsIn_32 md.1.1.1 (e_mwordOf md.1.1 (by omega) hm12 cr ?_)
          simp only [cont, Option.toList, List.cons_append, List.nil_append]
          refine rX10_soundsIn_35 ?_
          simp only [bX10_soundsIn_35, run, Nat.reduceAdd, lg, st1, st2, lkill, lset, fvv, sfv, kind3, cat1, retI, retA, List.length_cons, List.length_nil, true_and, and_true, or_true, true_or, qX10_soundsIn]
          refine sX10_soundsIn_37 (e_mat wk (by omega) ?_)
          simp only [cont, Option.toList, List.cons_append, List.nil_append]
          refine rX10_soundsIn_40 ?_
          simp only [bX10_soundsIn_40, run, Nat.reduceAdd, lg, st1, st2, lkill, lset, fvv, sfv, kind3, cat1, retI, retA, List.length_cons, List.length_nil, true_and, and_true, or_true, true_or, qX10_soundsIn, w_one ((cel D f gv m l).1.getD p 0) (by omega), fa_or, nI_1]
          exact n2
      refine rX10_soundsIn_4 ?_
      simp only [bX10_soundsIn_4, run, Nat.reduceAdd, lg, st1, st2, lkill, lset, fvv, sfv, kind3, cat1, retI, retA, List.length_cons, List.length_nil, true_and, and_true, or_true, true_or, qX10_soundsIn, show ((12 : Int32) ≤ nI m) ↔ False from ⟨nI_ge (b := 12) (by omega) (by omega), False.elim⟩, not_true_eq_false, not_false_eq_true, false_implies, true_and, and_true, tti]
      exact inner _ 0 (Nat.zero_add _)
  refine rX10_soundsIn_0 ?_
  simp only [bX10_soundsIn_0, run, Nat.reduceAdd, lg, st1, st2, lkill, lset, fvv, sfv, kind3, cat1, retI, retA, List.length_cons, List.length_nil, true_and, and_true, or_true, true_or, qX10_soundsIn]
  exact lp 12 0 rfl _
theorem e_msoundsOf {g : Gp} {x : Int32} {h : AH} {Q : PQ} {f : Nat → Nat} {gv : Nat → List Nat} {op : Nat} {D : HD} (hf : ModR h f gv op D)
    (hq : ∀ l, l < D.1 → x = nI l → ∀ h', Ms h h' → zI h' 99 0 = 0 → Q (.inl (some (vI (nI (sos D f gv l 12))))) h')
    (hx : inb x D.1 = false → ∀ h', Ms h h' → zI h' 99 0 = 1 → Q (.inl (some (vI 0))) h') : Ev g mX10_soundsOf [vR 99, vI x] h Q := by
  refine nX10_soundsOf ?_
  refine rX10_soundsOf_0 ?_
  simp only [bX10_soundsOf_0, run, Nat.reduceAdd, lg, st1, st2, lkill, lset, fvv, sfv, kind3, cat1, retI, retA, List.length_cons, List.length_nil, true_and, and_true, or_true, true_or, qX10_soundsOf]
  refine sX10_soundsOf_3 hf.1.1 (e_isAsked (y := 0) hf (fun l m hl hm ex ey h2 y2 md t => ?_) fun e h2 y2 t => ?_)
  · simp only [cont, Option.toList, List.cons_append, List.nil_append]
    subst ex
    refine rX10_soundsOf_6 ?_
    simp only [bX10_soundsOf_6, run, Nat.reduceAdd, lg, st1, st2, lkill, lset, fvv, sfv, kind3, cat1, retI, retA, List.length_cons, List.length_nil, true_and, and_true, or_true, true_or, qX10_soundsOf, show ¬ (1 : Int32) = 0 by decide, not_true_eq_false, not_false_eq_true, false_implies, true_and, and_true, tti]
    refine sX10_soundsOf_11 md.1.1.1 (e_msoundsIn md hl ?_)
    simp only [cont, Option.toList, List.cons_append, List.nil_append]
    refine rX10_soundsOf_14 ?_
    simp only [bX10_soundsOf_14, run, Nat.reduceAdd, lg, st1, st2, lkill, lset, fvv, sfv, kind3, cat1, retI, retA, List.length_cons, List.length_nil, true_and, and_true, or_true, true_or, qX10_soundsOf]
    exact hq l hl rfl h2 y2 t
  · simp only [cont, Option.toList, List.cons_append, List.nil_append]
    rw [show inb 0 12 = true by decide, Bool.and_true] at e
    refine rX10_soundsOf_6 ?_
    simp only [bX10_soundsOf_6, run, Nat.reduceAdd, lg, st1, st2, lkill, lset, fvv, sfv, kind3, cat1, retI, retA, List.length_cons, List.length_nil, true_and, and_true, or_true, true_or, qX10_soundsOf, not_true_eq_false, not_false_eq_true, false_implies, true_and, and_true, tti]
    refine rX10_soundsOf_17 ?_
    simp only [bX10_soundsOf_17, run, Nat.reduceAdd, lg, st1, st2, lkill, lset, fvv, sfv, kind3, cat1, retI, retA, List.length_cons, List.length_nil, true_and, and_true, or_true, true_or, qX10_soundsOf]
    exact hx e h2 y2 t
