/-! ===== the model's checksum ===== -/
theorem mxe (s v : Int64) : s * 31 + v = mx s v := rfl
theorem e_dgS1 {g : Gp} {Q : PQ} {cU cC l m : Nat} {s : Int64} {w : List Nat} {h : AH} (hw : Wok w) {z10 z11 : AV}
    (out : ∀ z9, Ex g mX10_digest 196 [vR 99, vR cU, vR cC, vL (mxs s w), vU, vI (nI l), vI (nI m), vL (wM w), vU, z9, z10, z11] [] h (2, 1320) Q) :
    Ex g mX10_digest 165 [vR 99, vR cU, vR cC, vL (mx s (nI w.length).toInt64), vU, vI (nI l), vI (nI m), vL (wM w), vU, vI (nI 0), z10, z11] [] h (2, 1320) Q := by
  have w10 := hw.1
  have lp : ∀ d p, p + d = w.length → Ex g mX10_digest 165 [vR 99, vR cU, vR cC, vL (mxp s w p), vU, vI (nI l), vI (nI m), vL (wM w), vU, vI (nI p), z10, z11] [] h (2, 1320) Q := by
    intro d
    induction d with
    | zero =>
      intro p hp
      have e : p = w.length := by omega
      subst e
      refine rX10_digest_165 ?_
      simp only [bX10_digest_165, run, Nat.reduceAdd, lg, st1, st2, lkill, lset, fvv, sfv, kind3, cat1, retI, retA, List.length_cons, List.length_nil, true_and, and_true, or_true, true_or, qX10_digest]
      refine sX10_digest_169 (e_mlen hw ?_)
      simp only [cont, Option.toList, List.cons_append, List.nil_append]
      refine rX10_digest_172 ?_
      simp only [bX10_digest_172, run, Nat.reduceAdd, lg, st1, st2, lkill, lset, fvv, sfv, kind3, cat1, retI, retA, List.length_cons, List.length_nil, true_and, and_true, or_true, true_or, qX10_digest, show nI w.length ≤ nI w.length ↔ True from ⟨fun _ => trivial, fun _ => nI_le (Nat.le_refl _) (by omega)⟩, not_true_eq_false, not_false_eq_true, false_implies, true_and, and_true, tti]
      exact out _
    | succ d ih =>
      intro p hp
      have nx := ih (p + 1) (by omega)
      rw [mxp] at nx
      refine rX10_digest_165 ?_
      simp only [bX10_digest_165, run, Nat.reduceAdd, lg, st1, st2, lkill, lset, fvv, sfv, kind3, cat1, retI, retA, List.length_cons, List.length_nil, true_and, and_true, or_true, true_or, qX10_digest]
      refine sX10_digest_169 (e_mlen hw ?_)
      simp only [cont, Option.toList, List.cons_append, List.nil_append]
      refine rX10_digest_172 ?_
      simp only [bX10_digest_172, run, Nat.reduceAdd, lg, st1, st2, lkill, lset, fvv, sfv, kind3, cat1, retI, retA, List.length_cons, List.length_nil, true_and, and_true, or_true, true_or, qX10_digest, show nI w.length ≤ nI p ↔ False from ⟨nI_ge (by omega) (by omega), False.elim⟩, not_true_eq_false, not_false_eq_true, false_implies, true_and, and_true, tti]
      refine sX10_digest_184 (e_mat hw (by omega) ?_)
      simp only [cont, Option.toList, List.cons_append, List.nil_append]
      refine rX10_digest_187 ?_
      simp only [bX10_digest_187, run, Nat.reduceAdd, lg, st1, st2, lkill, lset, fvv, sfv, kind3, cat1, retI, retA, List.length_cons, List.length_nil, true_and, and_true, or_true, true_or, qX10_digest, mxe, nI_1]
      exact nx
  exact lp w.length 0 (Nat.zero_add _)
theorem e_dgS2 {g : Gp} {Q : PQ} {cU cC l m : Nat} {s i7 : Int64} {w : List Nat} {h : AH} (hw : Wok w)
    (out : ∀ z11, Ex g mX10_digest 283 [vR 99, vR cU, vR cC, vL (mxs s w), vU, vI (nI l), vI (nI m), vL i7, vU, vL (wM w), vU, z11] [] h (2, 1320) Q) :
    Ex g mX10_digest 252 [vR 99, vR cU, vR cC, vL (mx s (nI w.length).toInt64), vU, vI (nI l), vI (nI m), vL i7, vU, vL (wM w), vU, vI (nI 0)] [] h (2, 1320) Q := by
  have w10 := hw.1
  have lp : ∀ d p, p + d = w.length → Ex g mX10_digest 252 [vR 99, vR cU, vR cC, vL (mxp s w p), vU, vI (nI l), vI (nI m), vL i7, vU, vL (wM w), vU, vI (nI p)] [] h (2, 1320) Q := by
    intro d
    induction d with
    | zero =>
      intro p hp
      have e : p = w.length := by omega
      subst e
      refine rX10_digest_252 ?_
      simp only [bX10_digest_252, run, Nat.reduceAdd, lg, st1, st2, lkill, lset, fvv, sfv, kind3, cat1, retI, retA, List.length_cons, List.length_nil, true_and, and_true, or_true, true_or, qX10_digest]
      refine sX10_digest_256 (e_mlen hw ?_)
      simp only [cont, Option.toList, List.cons_append, List.nil_append]
      refine rX10_digest_259 ?_
      simp only [bX10_digest_259, run, Nat.reduceAdd, lg, st1, st2, lkill, lset, fvv, sfv, kind3, cat1, retI, retA, List.length_cons, List.length_nil, true_and, and_true, or_true, true_or, qX10_digest, show nI w.length ≤ nI w.length ↔ True from ⟨fun _ => trivial, fun _ => nI_le (Nat.le_refl _) (by omega)⟩, not_true_eq_false, not_false_eq_true, false_implies, true_and, and_true, tti]
      exact out _
    | succ d ih =>
      intro p hp
      have nx := ih (p + 1) (by omega)
      rw [mxp] at nx
      refine rX10_digest_252 ?_
      simp only [bX10_digest_252, run, Nat.reduceAdd, lg, st1, st2, lkill, lset, fvv, sfv, kind3, cat1, retI, retA, List.length_cons, List.length_nil, true_and, and_true, or_true, true_or, qX10_digest]
      refine sX10_digest_256 (e_mlen hw ?_)
      simp only [cont, Option.toList, List.cons_append, List.nil_append]
      refine rX10_digest_259 ?_
      simp only [bX10_digest_259, run, Nat.reduceAdd, lg, st1, st2, lkill, lset, fvv, sfv, kind3, cat1, retI, retA, List.length_cons, List.length_nil, true_and, and_true, or_true, true_or, qX10_digest, show nI w.length ≤ nI p ↔ False from ⟨nI_ge (by omega) (by omega), False.elim⟩, not_true_eq_false, not_false_eq_true, false_implies, true_and, and_true, tti]
      refine sX10_digest_271 (e_mat hw (by omega) ?_)
      simp only [cont, Option.toList, List.cons_append, List.nil_append]
      refine rX10_digest_274 ?_
      simp only [bX10_digest_274, run, Nat.reduceAdd, lg, st1, st2, lkill, lset, fvv, sfv, kind3, cat1, retI, retA, List.length_cons, List.length_nil, true_and, and_true, or_true, true_or, qX10_digest, mxe, nI_1]
      exact nx
  exact lp w.length 0 (Nat.zero_add _)
/-- the costs go in at the end -/
theorem e_dgC {g : Gp} {Q : PQ} {cU cC : Nat} {s : Int64} {h : AH} {f : Nat → Nat} {gv : Nat → List Nat} {op : Nat} {D : HD} (md : MdA h f gv op D) (cs : CsR h cC f gv D) {z5 z6 z7 z8 z9 z10 z11 : AV} (hq : Q (.inl (some (vL (mcs D f gv s D.1)))) h) :
    Ex g mX10_digest 324 [vR 99, vR cU, vR cC, vL s, vU, z5, z6, z7, z8, z9, z10, z11] [] h (2, 1320) Q := by
  have hD1 := md.1.ok.2.1
  have ms := md.1.1
  have e4 := md.1.2.2.2.2.1.1
  have nn : D.1 * D.1 * 12 ≤ 1200 := by
    have := Nat.mul_le_mul hD1 hD1
    omega
  have lp : ∀ d i, i + d = D.1 → ∀ (z6 z7 z8 z9 z10 z11 : AV), Ex g mX10_digest 327 [vR 99, vR cU, vR cC, vL (mcs D f gv s i), vU, vI (nI i), z6, z7, z8, z9, z10, z11] [] h (2, 1320) Q := by
    intro d
    induction d with
    | zero =>
      intro i hi z6 z7 z8 z9 z10 z11
      have e : i = D.1 := by omega
      subst e
      refine rX10_digest_327 ?_
      simp only [bX10_digest_327, run, Nat.reduceAdd, lg, st1, st2, lkill, lset, fvv, sfv, kind3, cat1, retI, retA, List.length_cons, List.length_nil, true_and, and_true, or_true, true_or, qX10_digest, ms.1, e4, show nI D.1 ≤ nI D.1 ↔ True from ⟨fun _ => trivial, fun _ => nI_le (Nat.le_refl _) (by omega)⟩, not_true_eq_false, not_false_eq_true, false_implies, true_and, and_true, tti]
      refine rX10_digest_405 ?_
      simp only [bX10_digest_405, run, Nat.reduceAdd, lg, st1, st2, lkill, lset, fvv, sfv, kind3, cat1, retI, retA, List.length_cons, List.length_nil, true_and, and_true, or_true, true_or, qX10_digest]
      exact hq
    | succ d ih =>
      intro i hi z6 z7 z8 z9 z10 z11
      have nx := ih (i + 1) (by omega)
      rw [mcs] at nx
      generalize mcs D f gv s i = s0 at nx
      have mid : ∀ d k, k + d = D.1 - 1 - i → ∀ (z7 : AV), Ex g mX10_digest 342 [vR 99, vR cU, vR cC, vL (mcg D f gv i s0 k), vU, vI (nI i), vI (nI (i + 1 + k)), z7, z8, z9, z10, z11] [] h (2, 1320) Q := by
        intro d
        induction d with
        | zero =>
          intro k hk z7
          have e : k = D.1 - 1 - i := by omega
          subst e
          refine rX10_digest_342 ?_
          simp only [bX10_digest_342, run, Nat.reduceAdd, lg, st1, st2, lkill, lset, fvv, sfv, kind3, cat1, retI, retA, List.length_cons, List.length_nil, true_and, and_true, or_true, true_or, qX10_digest, ms.1, e4, show nI D.1 ≤ nI (i + 1 + (D.1 - 1 - i)) ↔ True from ⟨fun _ => trivial, fun _ => nI_le (by omega) (by omega)⟩, not_true_eq_false, not_false_eq_true, false_implies, true_and, and_true, tti]
          refine rX10_digest_399 ?_
          simp only [bX10_digest_399, run, Nat.reduceAdd, lg, st1, st2, lkill, lset, fvv, sfv, kind3, cat1, retI, retA, List.length_cons, List.length_nil, true_and, and_true, or_true, true_or, qX10_digest, nI_1]
          exact nx _ _ _ _ _ _
        | succ d ih2 =>
          intro k hk z7
          have n2 := ih2 (k + 1) (by omega)
          rw [mcg] at n2
          generalize mcg D f gv i s0 k = s1 at n2
          have hk1 : i + 1 + k < D.1 := by omega
          have inner : ∀ d m, m + d = 12 → Ex g mX10_digest 354 [vR 99, vR cU, vR cC, vL (mcm (cwm D f gv i (i + 1 + k)) s1 m), vU, vI (nI i), vI (nI (i + 1 + k)), vI (nI m), z8, z9, z10, z11] [] h (2, 1320) Q := by
            intro d
            induction d with
            | zero =>
              intro m hm
              have e : m = 12 := by omega
              subst e
              refine rX10_digest_354 ?_
              simp only [bX10_digest_354, run, Nat.reduceAdd, lg, st1, st2, lkill, lset, fvv, sfv, kind3, cat1, retI, retA, List.length_cons, List.length_nil, true_and, and_true, or_true, true_or, qX10_digest, show ((12 : Int32) ≤ nI 12) = True by decide, not_true_eq_false, not_false_eq_true, false_implies, true_and, and_true, tti]
              refine rX10_digest_393 ?_
              simp only [bX10_digest_393, run, Nat.reduceAdd, lg, st1, st2, lkill, lset, fvv, sfv, kind3, cat1, retI, retA, List.length_cons, List.length_nil, true_and, and_true, or_true, true_or, qX10_digest, nI_1]
              exact n2 _
            | succ d ih3 =>
              intro m hm
              have hm12 : m < 12 := by omega
              have n3 := ih3 (m + 1) (by omega)
              rw [mcm] at n3
              have il := idx_lt (n := D.1) (show i < D.1 by omega) hk1 hm12
              have ei : (nI i * nI D.1 + nI (i + 1 + k)) * 12 + nI m = nI ((i * D.1 + (i + 1 + k)) * 12 + m) := by rw [pk_mul, nI_add, mk_12]
              have ki : (nI ((i * D.1 + (i + 1 + k)) * 12 + m)).toNatClampNeg = (i * D.1 + (i + 1 + k)) * 12 + m := nI_clamp (by omega)
              have cv := cs.2 i (i + 1 + k) m (by omega) hk1 hm12
              refine rX10_digest_354 ?_
              simp only [bX10_digest_354, run, Nat.reduceAdd, lg, st1, st2, lkill, lset, fvv, sfv, kind3, cat1, retI, retA, List.length_cons, List.length_nil, true_and, and_true, or_true, true_or, qX10_digest, show ((12 : Int32) ≤ nI m) ↔ False from ⟨nI_ge (b := 12) (by omega) (by omega), False.elim⟩, ms.1, e4, ei, cs.1, ki, cv, mxe, nI_1, not_true_eq_false, not_false_eq_true, false_implies, true_and, and_true, tti]
              exact ⟨vp_in_nI il (by omega), n3⟩
          refine rX10_digest_342 ?_
          simp only [bX10_digest_342, run, Nat.reduceAdd, lg, st1, st2, lkill, lset, fvv, sfv, kind3, cat1, retI, retA, List.length_cons, List.length_nil, true_and, and_true, or_true, true_or, qX10_digest, ms.1, e4, show nI D.1 ≤ nI (i + 1 + k) ↔ False from ⟨nI_ge (by omega) (by omega), False.elim⟩, not_true_eq_false, not_false_eq_true, false_implies, true_and, and_true, tti]
          exact inner 12 0 rfl
      refine rX10_digest_327 ?_
      simp only [bX10_digest_327, run, Nat.reduceAdd, lg, st1, st2, lkill, lset, fvv, sfv, kind3, cat1, retI, retA, List.length_cons, List.length_nil, true_and, and_true, or_true, true_or, qX10_digest, ms.1, e4, show nI D.1 ≤ nI i ↔ False from ⟨nI_ge (by omega) (by omega), False.elim⟩, nI_1, not_true_eq_false, not_false_eq_true, false_implies, true_and, and_true, tti]
      exact mid (D.1 - 1 - i) 0 (Nat.zero_add _) _
  refine rX10_digest_324 ?_
  simp only [bX10_digest_324, run, Nat.reduceAdd, lg, st1, st2, lkill, lset, fvv, sfv, kind3, cat1, retI, retA, List.length_cons, List.length_nil, true_and, and_true, or_true, true_or, qX10_digest]
  exact lp D.1 0 (Nat.zero_add _) _ _ _ _ _ _
theorem e_mdigest {g : Gp} {h : AH} {Q : PQ} {f : Nat → Nat} {gv : Nat → List Nat} {op : Nat} {D : HD} (hf : ModR h f gv op D)
    (hq : ∀ h', Ms h h' → zI h' 99 0 = 0 → Q (.inl (some (vL (dgs D f gv)))) h') : Ev g mX10_digest [vR 99] h Q := by
  refine nX10_digest ?_
  refine Ex.wf (fun w => ?_)
  have h1 := hf.thr w (v := 0)
  have hD := h1.ok
  have hD1 := hD.2.1
  have gm : ∀ m, m < 12 → Wok (gv m) := fun m hm => (h1.2.2.2.1 m hm).1
  refine rX10_digest_0 ?_
  simp only [bX10_digest_0, run, Nat.reduceAdd, lg, st1, st2, lkill, lset, fvv, sfv, kind3, cat1, retI, retA, List.length_cons, List.length_nil, true_and, and_true, or_true, true_or, qX10_digest, hf.1.1, not_true_eq_false, not_false_eq_true, false_implies, true_and, and_true, tti]
  refine Ex.wf (fun w1 => ?_)
  refine sX10_digest_6 (by decide) h1.1.1 (e_munlent h1 fun h2 c cN c22 y2 t2 tw2 => ?_)
  simp only [cont, Option.toList, List.cons_append, List.nil_append]
  refine Ex.wf (fun w2 => ?_)
  have h2R := y2.mod w1 h1
  refine rX10_digest_9 ?_
  simp only [bX10_digest_9, run, Nat.reduceAdd, lg, st1, st2, lkill, lset, fvv, sfv, kind3, cat1, retI, retA, List.length_cons, List.length_nil, true_and, and_true, or_true, true_or, qX10_digest]
  refine sX10_digest_11 h2R.1.1 (e_msolveR w2 h2R fun h3 y3 e99 md => ?_)
  simp only [cont, Option.toList, List.cons_append, List.nil_append]
  refine Ex.wf (fun w3 => ?_)
  have tw3 := tw2.kp w2 y3.1 (by omega)
  refine rX10_digest_14 ?_
  simp only [bX10_digest_14, run, Nat.reduceAdd, lg, st1, st2, lkill, lset, fvv, sfv, kind3, cat1, retI, retA, List.length_cons, List.length_nil, true_and, and_true, or_true, true_or, qX10_digest]
  refine sX10_digest_15 (by decide) md.1.1.1 (e_mcosts md fun h4 y4 t4 big4 cs4 => ?_)
  simp only [cont, Option.toList, List.cons_append, List.nil_append]
  refine Ex.wf (fun w4 => ?_)
  generalize zN h3 = cC at big4 cs4
  have md4 := y4.a w3 md
  have tw4 := tw3.kp w3 y4.1 (by omega)
  have t0 : zI h4 99 0 = 0 := by rw [t4, e99, t2]; exact zI_thr
  have ys4 : Ms h h4 := ((Ms.thr.tr y2).tr y3).tr y4.ms
  have e44 := md4.1.2.2.2.2.1.1
  have e11 := md4.1.2.2.2.2.1.2.1
  have q0 := fun h' y e => hq h' (ys4.tr (Mq.ms y)) e
  unfold dgs at q0
  have es : (82987 : Int64) + (nI D.1).toInt64 = mx 2677 (nI D.1).toInt64 := by
    unfold mx
    congr 1
  refine rX10_digest_18 ?_
  simp only [bX10_digest_18, run, Nat.reduceAdd, lg, st1, st2, lkill, lset, fvv, sfv, kind3, cat1, retI, retA, List.length_cons, List.length_nil, true_and, and_true, or_true, true_or, qX10_digest, md4.1.1.1, e44, e11, es, mxe, not_true_eq_false, not_false_eq_true, false_implies, true_and, and_true, tti]
  generalize mx (mx 2677 (nI D.1).toInt64) (nI D.2.2.2.length).toInt64 = s at q0
  have lp : ∀ d l, l + d = D.1 → ∀ (z6 z7 z8 z9 z10 z11 : AV) (h5 : AH), Mq h4 h5 → zI h5 99 0 = 0 → Ex g mX10_digest 42 [vR 99, vR c, vR cC, vL (mxLs D f gv s l), vU, vI (nI l), z6, z7, z8, z9, z10, z11] [] h5 (2, 1320) Q := by
    intro d
    induction d with
    | zero =>
      intro l hl z6 z7 z8 z9 z10 z11 h5 y5 t5
      have e : l = D.1 := by omega
      subst e
      have md5 := y5.a w4 md4
      have e45 := md5.1.2.2.2.2.1.1
      refine rX10_digest_42 ?_
      simp only [bX10_digest_42, run, Nat.reduceAdd, lg, st1, st2, lkill, lset, fvv, sfv, kind3, cat1, retI, retA, List.length_cons, List.length_nil, true_and, and_true, or_true, true_or, qX10_digest, md5.1.1.1, e45, show nI D.1 ≤ nI D.1 ↔ True from ⟨fun _ => trivial, fun _ => nI_le (Nat.le_refl _) (by omega)⟩, not_true_eq_false, not_false_eq_true, false_implies, true_and, and_true, tti]
      exact e_dgC md5 (cs4.mq w4 y5 big4) (q0 h5 y5 t5)
    | succ d ih =>
      intro l hl z6 z7 z8 z9 z10 z11 h5 y5 t5
      refine Ex.wf (fun w5 => ?_)
      have hl1 : l < D.1 := by omega
      have nx := ih (l + 1) (by omega)
      rw [mxLs] at nx
      generalize mxLs D f gv s l = t at nx
      unfold mxL at nx
      have md5 := y5.a w4 md4
      have ms5 := md5.1.1
      have e45 := md5.1.2.2.2.2.1.1
      have kl : (nI l).toNatClampNeg = l := nI_clamp (by omega)
      have c0 := (md5.1.2.2.2.2.1.2.2.2.1 l hl1).1
      refine rX10_digest_42 ?_
      simp only [bX10_digest_42, run, Nat.reduceAdd, lg, st1, st2, lkill, lset, fvv, sfv, kind3, cat1, retI, retA, List.length_cons, List.length_nil, true_and, and_true, or_true, true_or, qX10_digest, ms5.1, e45, show nI D.1 ≤ nI l ↔ False from ⟨nI_ge (by omega) (by omega), False.elim⟩, ms5.R6, ms5.K103, kl, c0, mxe, not_true_eq_false, not_false_eq_true, false_implies, true_and, and_true, tti]
      refine ⟨vp_in_nI (by omega) (by omega), sX10_digest_72 ms5.1 (e_mwealthOf md5 hl1 ?_)⟩
      simp only [cont, Option.toList, List.cons_append, List.nil_append]
      refine rX10_digest_75 ?_
      simp only [bX10_digest_75, run, Nat.reduceAdd, lg, st1, st2, lkill, lset, fvv, sfv, kind3, cat1, retI, retA, List.length_cons, List.length_nil, true_and, and_true, or_true, true_or, qX10_digest, mxe]
      refine sX10_digest_84 ms5.1 (e_malikeIn md5 hl1 ?_)
      simp only [cont, Option.toList, List.cons_append, List.nil_append]
      refine rX10_digest_87 ?_
      simp only [bX10_digest_87, run, Nat.reduceAdd, lg, st1, st2, lkill, lset, fvv, sfv, kind3, cat1, retI, retA, List.length_cons, List.length_nil, true_and, and_true, or_true, true_or, qX10_digest, mxe]
      refine sX10_digest_96 ms5.1 (e_msoundsIn md5 hl1 ?_)
      simp only [cont, Option.toList, List.cons_append, List.nil_append]
      refine rX10_digest_99 ?_
      simp only [bX10_digest_99, run, Nat.reduceAdd, lg, st1, st2, lkill, lset, fvv, sfv, kind3, cat1, retI, retA, List.length_cons, List.length_nil, true_and, and_true, or_true, true_or, qX10_digest, mxe]
      refine sX10_digest_111 ms5.1 (e_mnearestBy md5 (cs4.mq w4 y5 big4) big4 hl1 ?_)
      simp only [cont, Option.toList, List.cons_append, List.nil_append]
      refine rX10_digest_114 ?_
      simp only [bX10_digest_114, run, Nat.reduceAdd, lg, st1, st2, lkill, lset, fvv, sfv, kind3, cat1, retI, retA, List.length_cons, List.length_nil, true_and, and_true, or_true, true_or, qX10_digest, mxe]
      refine sX10_digest_123 ms5.1 (e_mwellNow md5 hl1 fun h6 y6 t6 => ?_)
      simp only [cont, Option.toList, List.cons_append, List.nil_append]
      refine rX10_digest_126 ?_
      simp only [bX10_digest_126, run, Nat.reduceAdd, lg, st1, st2, lkill, lset, fvv, sfv, kind3, cat1, retI, retA, List.length_cons, List.length_nil, true_and, and_true, or_true, true_or, qX10_digest, mxe]
      generalize mx (mx (mx (mx (mx (mx t (nI (D.2.2.1 l).length).toInt64) (nI (wlt D f gv l 12)).toInt64) (nI (alk (fun m => (cel D f gv m l).1) 12)).toInt64) (nI (sos D f gv l 12)).toInt64) (bI (nst (dsX D f gv l) l D.1).1).toInt64) (nI (rwl D f gv l 12)).toInt64 = t2 at nx
      have inner : ∀ d m, m + d = 12 → ∀ (z7 z8 z9 z10 z11 : AV) (h7 : AH), Mq h4 h7 → zI h7 99 0 = 0 → Ex g mX10_digest 132 [vR 99, vR c, vR cC, vL (mxM D f gv l t2 m), vU, vI (nI l), vI (nI m), z7, z8, z9, z10, z11] [] h7 (2, 1320) Q := by
        intro d
        induction d with
        | zero =>
          intro m hm z7 z8 z9 z10 z11 h7 y7 t7
          have e : m = 12 := by omega
          subst e
          refine rX10_digest_132 ?_
          simp only [bX10_digest_132, run, Nat.reduceAdd, lg, st1, st2, lkill, lset, fvv, sfv, kind3, cat1, retI, retA, List.length_cons, List.length_nil, true_and, and_true, or_true, true_or, qX10_digest, show ((12 : Int32) ≤ nI 12) = True by decide, not_true_eq_false, not_false_eq_true, false_implies, true_and, and_true, tti]
          refine rX10_digest_318 ?_
          simp only [bX10_digest_318, run, Nat.reduceAdd, lg, st1, st2, lkill, lset, fvv, sfv, kind3, cat1, retI, retA, List.length_cons, List.length_nil, true_and, and_true, or_true, true_or, qX10_digest, nI_1]
          exact nx _ _ _ _ _ _ h7 y7 t7
        | succ d ih3 =>
          intro m hm z7 z8 z9 z10 z11 h7 y7 t7
          refine Ex.wf (fun w7 => ?_)
          have hm12 : m < 12 := by omega
          have n3 := ih3 (m + 1) (by omega)
          rw [mxM] at n3
          generalize mxM D f gv l t2 m = t3 at n3
          unfold mxW at n3
          have md7 := y7.a w4 md4
          have ms7 := md7.1.1
          have wl := md7.wk hm12 hl1
          have z0 := cel_0 (f := f) (gv := gv) (m := m) hD.v hl1
          have mc := md7.2 l hl1 m hm12
          have okr := rcl_ok (l := l) fun d hd => (md7.wk hm12 (l := d) hd).1
          have key := wM_inj (cel_okv (f := f) (noL_v hD) (gm m hm12) (show l < (noL D).1 from hl1)).1 wl.1
          refine rX10_digest_132 ?_
          simp only [bX10_digest_132, run, Nat.reduceAdd, lg, st1, st2, lkill, lset, fvv, sfv, kind3, cat1, retI, retA, List.length_cons, List.length_nil, true_and, and_true, or_true, true_or, qX10_digest, show ((12 : Int32) ≤ nI m) ↔ False from ⟨nI_ge (b := 12) (by omega) (by omega), False.elim⟩, not_true_eq_false, not_false_eq_true, false_implies, true_and, and_true, tti]
          refine sX10_digest_144 ms7.1 (e_mwordOf ms7 (by omega) hm12 mc ?_)
          simp only [cont, Option.toList, List.cons_append, List.nil_append]
          refine rX10_digest_147 ?_
          simp only [bX10_digest_147, run, Nat.reduceAdd, lg, st1, st2, lkill, lset, fvv, sfv, kind3, cat1, retI, retA, List.length_cons, List.length_nil, true_and, and_true, or_true, true_or, qX10_digest]
          refine sX10_digest_156 (e_mlen wl.1 ?_)
          simp only [cont, Option.toList, List.cons_append, List.nil_append]
          refine rX10_digest_159 ?_
          simp only [bX10_digest_159, run, Nat.reduceAdd, lg, st1, st2, lkill, lset, fvv, sfv, kind3, cat1, retI, retA, List.length_cons, List.length_nil, true_and, and_true, or_true, true_or, qX10_digest, mxe]
          refine e_dgS1 wl.1 (fun z9 => ?_)
          refine rX10_digest_196 ?_
          simp only [bX10_digest_196, run, Nat.reduceAdd, lg, st1, st2, lkill, lset, fvv, sfv, kind3, cat1, retI, retA, List.length_cons, List.length_nil, true_and, and_true, or_true, true_or, qX10_digest]
          refine sX10_digest_206 ms7.1 (e_moriginOf ms7 (by omega) hm12 wl.1 (fun q => (z0 q).1) mc ?_)
          simp only [cont, Option.toList, List.cons_append, List.nil_append]
          refine rX10_digest_209 ?_
          simp only [bX10_digest_209, run, Nat.reduceAdd, lg, st1, st2, lkill, lset, fvv, sfv, kind3, cat1, retI, retA, List.length_cons, List.length_nil, true_and, and_true, or_true, true_or, qX10_digest, mxe]
          refine sX10_digest_220 ms7.1 (e_mchangesOf ms7 (by omega) hm12 wl.1 (fun q => (z0 q).2) mc ?_)
          simp only [cont, Option.toList, List.cons_append, List.nil_append]
          refine rX10_digest_223 ?_
          simp only [bX10_digest_223, run, Nat.reduceAdd, lg, st1, st2, lkill, lset, fvv, sfv, kind3, cat1, retI, retA, List.length_cons, List.length_nil, true_and, and_true, or_true, true_or, qX10_digest, mxe]
          refine sX10_digest_231 ms7.1 (e_mrecalledNow md7 hm12 hl1 fun h8 y8 t8 => ?_)
          simp only [cont, Option.toList, List.cons_append, List.nil_append]
          refine rX10_digest_234 ?_
          simp only [bX10_digest_234, run, Nat.reduceAdd, lg, st1, st2, lkill, lset, fvv, sfv, kind3, cat1, retI, retA, List.length_cons, List.length_nil, true_and, and_true, or_true, true_or, qX10_digest]
          refine sX10_digest_243 (e_mlen okr ?_)
          simp only [cont, Option.toList, List.cons_append, List.nil_append]
          refine rX10_digest_246 ?_
          simp only [bX10_digest_246, run, Nat.reduceAdd, lg, st1, st2, lkill, lset, fvv, sfv, kind3, cat1, retI, retA, List.length_cons, List.length_nil, true_and, and_true, or_true, true_or, qX10_digest, mxe]
          refine e_dgS2 okr (fun z11 => ?_)
          have y78 := y7.tr y8
          have tw8 := tw4.kp w4 y78.1 (by omega)
          have tv := tw8.2 l hl1 m hm12
          have kk : (nI (l * 12 + m)).toNatClampNeg = l * 12 + m := nI_clamp (by omega)
          have vk := vp_in_nI (show l * 12 + m < D.1 * 12 by omega) (show D.1 * 12 < 2 ^ 31 by omega)
          by_cases e : (cel D f gv m l).1 = (cel (noL D) f gv m l).1
          · rw [if_pos e] at n3
            refine rX10_digest_283 ?_
            simp only [bX10_digest_283, run, Nat.reduceAdd, lg, st1, st2, lkill, lset, fvv, sfv, kind3, cat1, retI, retA, List.length_cons, List.length_nil, true_and, and_true, or_true, true_or, qX10_digest, mk_12, tw8.1, kk, tv, lg_cmp_eq, show wM (cel (noL D) f gv m l).1 = wM (cel D f gv m l).1 ↔ True from ⟨fun _ => trivial, fun _ => key.mpr e.symm⟩, show (0 : Int32).toInt64 = 0 by decide, mxe, nI_1, not_true_eq_false, not_false_eq_true, false_implies, true_and, and_true, tti]
            exact ⟨vk, n3 _ _ _ _ _ h8 y78 (t8.trans t7)⟩
          · rw [if_neg e] at n3
            refine rX10_digest_283 ?_
            simp only [bX10_digest_283, run, Nat.reduceAdd, lg, st1, st2, lkill, lset, fvv, sfv, kind3, cat1, retI, retA, List.length_cons, List.length_nil, true_and, and_true, or_true, true_or, qX10_digest, mk_12, tw8.1, kk, tv, lg_cmp_eq, show wM (cel (noL D) f gv m l).1 = wM (cel D f gv m l).1 ↔ False from ⟨fun q => e (key.mp q).symm, False.elim⟩, not_true_eq_false, not_false_eq_true, false_implies, true_and, and_true, tti]
            refine ⟨vk, ?_⟩
            refine rX10_digest_308 ?_
            simp only [bX10_digest_308, run, Nat.reduceAdd, lg, st1, st2, lkill, lset, fvv, sfv, kind3, cat1, retI, retA, List.length_cons, List.length_nil, true_and, and_true, or_true, true_or, qX10_digest, show (1 : Int32).toInt64 = 1 by decide, mxe, nI_1, not_true_eq_false, not_false_eq_true, false_implies, true_and, and_true, tti]
            exact n3 _ _ _ _ _ h8 y78 (t8.trans t7)
      exact inner 12 0 rfl _ _ _ _ _ h6 (y5.tr y6) (t6.trans t5)
  exact lp D.1 0 (Nat.zero_add _) _ _ _ _ _ _ h4 Mq.rf t0
