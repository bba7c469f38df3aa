/-! ===== the model: how far ===== -/
theorem Mq.wnew {h0 h2 : AH} {c k : Nat} {v : Int32} (y : Mq h0 h2) (h99 : 99 < zN h0) (hc : zN h0 ≤ c) : Mq h0 (sI h2 c k v) := by
  refine ⟨⟨y.1.1, y.1.2.1, fun a ha hs => (y.1.2.2 a ha hs).tr (Sm.sI (by omega))⟩, fun j h1 h3 => ?_, y.2.2⟩
  rw [zI_n (by omega)]
  exact y.2.1 j h1 h3
theorem Mq.wnewL {h0 h2 : AH} {c k : Nat} {v : Int64} (y : Mq h0 h2) (h99 : 99 < zN h0) (hc : zN h0 ≤ c) : Mq h0 (sL h2 c k v) :=
  ⟨⟨y.1.1, y.1.2.1, fun a ha hs => (y.1.2.2 a ha hs).tr (Sm.sL (by omega))⟩, y.2.1, y.2.2⟩
theorem Mq.nw {h : AH} {kd : Nat × Nat} (h99 : 99 < zN h) : Mq h (nw h kd) := by
  refine ⟨Kp.nw, fun j _ _ => ?_, ?_⟩
  · rw [zI_nwE, if_neg (by omega)]
  · rw [zR_nwE, if_neg (by omega)]
theorem idx_inj {n o p m o' p' m' : Nat} (hp : p < n) (hp' : p' < n) (hm : m < 12) (hm' : m' < 12) (e : (o * n + p) * 12 + m = (o' * n + p') * 12 + m') : o = o' ∧ p = p' ∧ m = m' := by
  have e1 : o * n + p = o' * n + p' := by omega
  have d : ∀ a b, b < n → (a * n + b) / n = a := fun a b hb => by
    rw [Nat.mul_comm, Nat.mul_add_div (by omega), Nat.div_eq_of_lt hb, Nat.add_zero]
  have e2 : o = o' := by rw [← d o p hp, e1, d o' p' hp']
  subst e2
  exact ⟨rfl, by omega, by omega⟩
theorem idx_lt {n o p m : Nat} (ho : o < n) (hp : p < n) (hm : m < 12) : (o * n + p) * 12 + m < n * n * 12 := by
  have : o * n + n ≤ n * n := by
    have := Nat.mul_le_mul_right n (show o + 1 ≤ n from ho)
    rw [Nat.add_mul, Nat.one_mul] at this
    exact this
  omega
def CsR (h : AH) (c : Nat) (f : Nat → Nat) (gv : Nat → List Nat) (D : HD) : Prop := zK h c = (2, D.1 * D.1 * 12) ∧ ∀ o p m, o < p → p < D.1 → m < 12 → zI h c ((o * D.1 + p) * 12 + m) = hI (cwm D f gv o p m)
theorem CsR.mq {h h' : AH} {c : Nat} {f : Nat → Nat} {gv : Nat → List Nat} {D : HD} (w : Wf h) (y : Mq h h') (hc : 122 ≤ c) (x : CsR h c f gv D) : CsR h' c f gv D := by
  refine ⟨y.1.kd w x.1 (by decide), fun o p m h1 h2 h3 => ?_⟩
  rw [(y.1.2.2 c (w.lt x.1 (by decide)) (by omega)).1]
  exact x.2 o p m h1 h2 h3
theorem e_mcosts {g : Gp} {h : AH} {Q : PQ} {f : Nat → Nat} {gv : Nat → List Nat} {op : Nat} {D : HD} (md : MdA h f gv op D)
    (hq : ∀ h', Mq h h' → zI h' 99 0 = zI h 99 0 → 122 ≤ zN h → CsR h' (zN h) f gv D → Q (.inl (some (vR (zN h)))) h') : Ev g mX10_costs [vR 99] h Q := by
  have hD := md.1.ok
  have hD0 := hD.1
  have hD1 := hD.2.1
  refine nX10_costs ?_
  refine Ex.wf (fun w => ?_)
  have big : 122 ≤ zN h := md.1.1.lt w (Nat.le_refl _)
  have e4 := md.1.2.2.2.2.1.1
  generalize hn : D.1 = n at e4 hD0 hD1
  have nn : n * n ≤ 100 := by
    have := Nat.mul_le_mul hD1 hD1
    omega
  have es : nI n * nI n * 12 = nI (n * n * 12) := by rw [pk_mul, show (12 : Int32) = nI 12 from rfl, pk_mul]
  have kN : (nI (n * n * 12)).toNatClampNeg = n * n * 12 := nI_clamp (by omega)
  generalize hc : zN h = c at hq big
  -- the row is new, and stays where it is
  have St : ∀ {h2}, Mq h h2 → MdA h2 f gv op D := fun y => y.a w md
  have lp1 : ∀ d o, o + d = n → ∀ (h2 : AH) (y z : AV), Mq h h2 → zI h2 99 0 = zI h 99 0 → zK h2 c = (2, n * n * 12) → (∀ o' p m, o' < p → p < n → m < 12 → o' < o → zI h2 c ((o' * n + p) * 12 + m) = hI (cwm D f gv o' p m)) → ∀ u, Ex g mX10_costs 17 [vR 99, vR c, vI (nI o), y, z] [] h2 u Q := by
    intro d
    induction d with
    | zero =>
      intro o ho h2 y z yq e0 kc inv u
      have e : o = n := by omega
      subst e
      have md2 := St yq
      have e42 := md2.1.2.2.2.2.1.1
      rw [hn] at e42
      refine rX10_costs_17 ?_
      simp only [bX10_costs_17, run, Nat.reduceAdd, lg, st1, st2, lkill, lset, fvv, sfv, kind3, cat1, retI, retA, List.length_cons, List.length_nil, true_and, and_true, or_true, true_or, qX10_costs, md2.1.1.1, e42, show nI o ≤ nI o ↔ True from ⟨fun _ => trivial, fun _ => nI_le (Nat.le_refl _) (by omega)⟩, not_true_eq_false, not_false_eq_true, false_implies, true_and, and_true, tti]
      refine rX10_costs_89 ?_
      simp only [bX10_costs_89, run, Nat.reduceAdd, lg, st1, st2, lkill, lset, fvv, sfv, kind3, cat1, retI, retA, List.length_cons, List.length_nil, true_and, and_true, or_true, true_or, qX10_costs]
      refine hq h2 yq e0 big ⟨by rw [hn]; exact kc, fun o' p m q1 q2 q3 => ?_⟩
      rw [hn] at q2 ⊢
      exact inv o' p m q1 q2 q3 (by omega)
    | succ d ih =>
      intro o ho h2 y z yq e0 kc inv u
      have ho1 : o < n := by omega
      have lp2 : ∀ d p, p + d = n → o < p → ∀ (h2 : AH) (z : AV), Mq h h2 → zI h2 99 0 = zI h 99 0 → zK h2 c = (2, n * n * 12) → (∀ o' p' m, o' < p' → p' < n → m < 12 → (o' < o ∨ (o' = o ∧ p' < p)) → zI h2 c ((o' * n + p') * 12 + m) = hI (cwm D f gv o' p' m)) → ∀ u, Ex g mX10_costs 29 [vR 99, vR c, vI (nI o), vI (nI p), z] [] h2 u Q := by
        intro d
        induction d with
        | zero =>
          intro p hp op h2 z yq e0 kc inv u
          have e : p = n := by omega
          subst e
          have md2 := St yq
          have e42 := md2.1.2.2.2.2.1.1
          rw [hn] at e42
          refine rX10_costs_29 ?_
          simp only [bX10_costs_29, run, Nat.reduceAdd, lg, st1, st2, lkill, lset, fvv, sfv, kind3, cat1, retI, retA, List.length_cons, List.length_nil, true_and, and_true, or_true, true_or, qX10_costs, md2.1.1.1, e42, show nI p ≤ nI p ↔ True from ⟨fun _ => trivial, fun _ => nI_le (Nat.le_refl _) (by omega)⟩, not_true_eq_false, not_false_eq_true, false_implies, true_and, and_true, tti]
          refine rX10_costs_83 ?_
          simp only [bX10_costs_83, run, Nat.reduceAdd, lg, st1, st2, lkill, lset, fvv, sfv, kind3, cat1, retI, retA, List.length_cons, List.length_nil, true_and, and_true, or_true, true_or, qX10_costs, nI_1]
          exact ih (o + 1) (by omega) h2 _ _ yq e0 kc (fun o' p' m q1 q2 q3 q4 => inv o' p' m q1 q2 q3 (by omega)) _
        | succ d ih2 =>
          intro p hp op h2 z yq e0 kc inv u
          have hp1 : p < n := by omega
          have lp3 : ∀ d m, m + d = 12 → ∀ (h2 : AH), Mq h h2 → zI h2 99 0 = zI h 99 0 → zK h2 c = (2, n * n * 12) → (∀ o' p' m', o' < p' → p' < n → m' < 12 → (o' < o ∨ (o' = o ∧ p' < p) ∨ (o' = o ∧ p' = p ∧ m' < m)) → zI h2 c ((o' * n + p') * 12 + m') = hI (cwm D f gv o' p' m')) → ∀ u, Ex g mX10_costs 40 [vR 99, vR c, vI (nI o), vI (nI p), vI (nI m)] [] h2 u Q := by
            intro d
            induction d with
            | zero =>
              intro m hm h2 yq e0 kc inv u
              have e : m = 12 := by omega
              subst e
              refine rX10_costs_40 ?_
              simp only [bX10_costs_40, run, Nat.reduceAdd, lg, st1, st2, lkill, lset, fvv, sfv, kind3, cat1, retI, retA, List.length_cons, List.length_nil, true_and, and_true, or_true, true_or, qX10_costs, show ((12 : Int32) ≤ nI 12) = True by decide, not_true_eq_false, not_false_eq_true, false_implies, true_and, and_true, tti]
              refine rX10_costs_77 ?_
              simp only [bX10_costs_77, run, Nat.reduceAdd, lg, st1, st2, lkill, lset, fvv, sfv, kind3, cat1, retI, retA, List.length_cons, List.length_nil, true_and, and_true, or_true, true_or, qX10_costs, nI_1]
              exact ih2 (p + 1) (by omega) (by omega) h2 _ yq e0 kc (fun o' p' m q1 q2 q3 q4 => inv o' p' m q1 q2 q3 (by omega)) _
            | succ d ih3 =>
              intro m hm h2 yq e0 kc inv u
              refine Ex.wf (fun w2 => ?_)
              have hm12 : m < 12 := by omega
              have md2 := St yq
              have e42 := md2.1.2.2.2.2.1.1
              rw [hn] at e42
              have il := idx_lt (n := n) ho1 hp1 hm12
              have ei : (nI o * nI n + nI p) * 12 + nI m = nI ((o * n + p) * 12 + m) := by rw [pk_mul, nI_add, mk_12]
              have ki : (nI ((o * n + p) * 12 + m)).toNatClampNeg = (o * n + p) * 12 + m := nI_clamp (by omega)
              refine rX10_costs_40 ?_
              simp only [bX10_costs_40, run, Nat.reduceAdd, lg, st1, st2, lkill, lset, fvv, sfv, kind3, cat1, retI, retA, List.length_cons, List.length_nil, true_and, and_true, or_true, true_or, qX10_costs, show ((12 : Int32) ≤ nI m) ↔ False from ⟨nI_ge (b := 12) (by omega) (by omega), False.elim⟩, md2.1.1.1, e42, ei, not_true_eq_false, not_false_eq_true, false_implies, true_and, and_true, tti]
              refine sX10_costs_67 md2.1.1.1 (e_mcostNow md2 hm12 (by omega) (by omega) fun h3 y3 e3 _ => ?_)
              simp only [cont, Option.toList, List.cons_append, List.nil_append]
              have kc3 := y3.1.kd w2 kc (by decide)
              have ic3 := (y3.1.2.2 c (w2.lt kc (by decide)) (by omega)).1
              refine rX10_costs_70 ?_
              simp only [bX10_costs_70, run, Nat.reduceAdd, lg, st1, st2, lkill, lset, fvv, sfv, kind3, cat1, retI, retA, List.length_cons, List.length_nil, true_and, and_true, or_true, true_or, qX10_costs, kc3, ki, nI_1, not_true_eq_false, not_false_eq_true, false_implies, true_and, and_true, tti]
              refine ⟨vp_in_nI il (by omega), ih3 (m + 1) (by omega) _ ((yq.tr y3).wnew (by omega) (by omega)) (by rw [zI_n (by omega)]; exact e3.trans e0) kc3 (fun o' p' m' q1 q2 q3 q4 => ?_) _⟩
              rw [zI_sI]
              by_cases e : (o' * n + p') * 12 + m' = (o * n + p) * 12 + m
              · obtain ⟨rfl, rfl, rfl⟩ := idx_inj q2 hp1 q3 hm12 e
                rw [up1_s]
                rfl
              · rw [up1_n _ _ e, ic3]
                refine inv o' p' m' q1 q2 q3 ?_
                by_cases e1 : o' = o ∧ p' = p ∧ m' = m
                · exact absurd (by rw [e1.1, e1.2.1, e1.2.2]) e
                · omega
          have md2 := St yq
          have e42 := md2.1.2.2.2.2.1.1
          rw [hn] at e42
          refine rX10_costs_29 ?_
          simp only [bX10_costs_29, run, Nat.reduceAdd, lg, st1, st2, lkill, lset, fvv, sfv, kind3, cat1, retI, retA, List.length_cons, List.length_nil, true_and, and_true, or_true, true_or, qX10_costs, md2.1.1.1, e42, show nI n ≤ nI p ↔ False from ⟨nI_ge (by omega) (by omega), False.elim⟩, not_true_eq_false, not_false_eq_true, false_implies, true_and, and_true, tti]
          exact lp3 12 0 rfl h2 yq e0 kc (fun o' p' m' q1 q2 q3 q4 => inv o' p' m' q1 q2 q3 (by omega)) _
      have md2 := St yq
      have e42 := md2.1.2.2.2.2.1.1
      rw [hn] at e42
      refine rX10_costs_17 ?_
      simp only [bX10_costs_17, run, Nat.reduceAdd, lg, st1, st2, lkill, lset, fvv, sfv, kind3, cat1, retI, retA, List.length_cons, List.length_nil, true_and, and_true, or_true, true_or, qX10_costs, md2.1.1.1, e42, show nI n ≤ nI o ↔ False from ⟨nI_ge (by omega) (by omega), False.elim⟩, nI_1, not_true_eq_false, not_false_eq_true, false_implies, true_and, and_true, tti]
      exact lp2 (n - (o + 1)) (o + 1) (by omega) (by omega) h2 _ yq e0 kc (fun o' p' m q1 q2 q3 q4 => inv o' p' m q1 q2 q3 (by omega)) _
  refine rX10_costs_0 ?_
  simp only [bX10_costs_0, run, Nat.reduceAdd, lg, st1, st2, lkill, lset, fvv, sfv, kind3, cat1, retI, retA, List.length_cons, List.length_nil, true_and, and_true, or_true, true_or, qX10_costs, md.1.1.1, e4, es, kN, hc, not_true_eq_false, not_false_eq_true, false_implies, true_and, and_true, tti]
  refine ⟨fun q => nI_nlt (a := n * n * 12) (b := 0) (by omega) (by omega) q, by omega, by decide, by show 0 + n * n * 12 ≤ 1200; omega, ?_⟩
  exact lp1 n 0 (Nat.zero_add _) (nw h (2, n * n * 12)) _ _ (Mq.nw (by omega)) (by rw [zI_nwE, if_neg (by omega)]) (by rw [← hc]; exact zK_nw) (fun o' p m _ _ _ q => absurd q (Nat.not_lt_zero _)) _
