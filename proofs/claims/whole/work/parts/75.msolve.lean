/-! ===== the model tells all words ===== -/
def MC (h : AH) (k : Nat) (c : Cell3) : Prop := zL h 113 k = wM c.1 ∧ zI h 114 k = bI c.2.1 ∧ zI h 115 k = nI c.2.2
def MdB (h : AH) (f : Nat → Nat) (gv : Nat → List Nat) (D : HD) : Prop := ModS h ∧ SnM h f ∧ GvM h gv ∧ HsM h D ∧ hdV D
theorem MdB.ms {h h' : AH} {f : Nat → Nat} {gv : Nat → List Nat} {D : HD} (w : Wf h) (y : Ms h h') (x : MdB h f gv D) : MdB h' f gv D := ⟨y.s w x.1, y.sn w x.1 x.2.1, y.gv w x.1 x.2.2.1, y.hs w x.1 x.2.2.2.1, x.2.2.2.2⟩
theorem MC.cw {k j : Nat} {h h' : AH} {c : Cell3} (x : Cw 113 k h h') (hj : j ≠ k) (hc : MC h j c) : MC h' j c :=
  ⟨(x.2 j hj).1.trans hc.1, (x.2 j hj).2.1.trans hc.2.1, (x.2 j hj).2.2.trans hc.2.2⟩
theorem MC.w3 {k : Nat} {h : AH} {c : Cell3} {v : Int64} {o t : Int32} (h1 : v = wM c.1) (h2 : o = bI c.2.1) (h3 : t = nI c.2.2) : MC (sI (sI (sL h 113 k v) 114 k o) 115 k t) k c := by
  refine ⟨?_, ?_, ?_⟩
  · show zL (sL h 113 k v) 113 k = _
    rw [zL_sL, up1_s]; exact h1
  · rw [zI_n (show 114 ≠ 115 by decide), zI_sI, up1_s]; exact h2
  · rw [zI_sI, up1_s]; exact h3
theorem MdB.cw {k : Nat} {h h' : AH} {f : Nat → Nat} {gv : Nat → List Nat} {D : HD} (w : Wf h) (x : MdB h f gv D) (y : Cw 113 k h h') : MdB h' f gv D := x.ms w (Ms.of w x.1 y.1 fun a q => by omega)
theorem mk_12 {a b : Nat} : nI a * 12 + nI b = nI (a * 12 + b) := by rw [show (12 : Int32) = nI 12 from rfl, pk_mul, nI_add]
theorem mk_8 {a b : Nat} : nI a * 8 + nI b = nI (a * 8 + b) := by rw [show (8 : Int32) = nI 8 from rfl, pk_mul, nI_add]
def brr (ln : List Ln) (T : Nat → Cell3) (l m a : Nat) (c : Cell3) : Nat → Cell3
  | 0 => c
  | d + 1 => brw ln T l m (a + d) ln.length (brr ln T l m a c d)
theorem e_mborrow {g : Gp} {f : Nat → Nat} {gv : Nat → List Nat} {D : HD} {T : Nat → Cell3} {l m a b : Nat} {c : Cell3} {h : AH} {Q : PQ} (md : MdB h f gv D) (hl : l < D.1) (hm : m < 12) (hab : a ≤ b) (hb : b ≤ 8) (hT : ∀ k, k < l → MC h (k * 12 + m) (T k) ∧ Wok (T k).1) (hc : MC h (l * 12 + m) c)
    (hq : ∀ h', Cw 113 (l * 12 + m) h h' → MC h' (l * 12 + m) (brr D.2.2.2 T l m a c (b + 1 - a)) → Q (.inl none) h') : Ev g mX10_borrow [vR 99, vI (nI l), vI (nI m), vI (nI a), vI (nI b)] h Q := by
  obtain ⟨hD0, hD1, hD2, hD3, hD4, hD5⟩ := md.2.2.2.2
  refine nX10_borrow ?_
  refine Ex.wf (fun w => ?_)
  have kc : l * 12 + m < 120 := by omega
  have kk : (nI (l * 12 + m)).toNatClampNeg = l * 12 + m := nI_clamp (by omega)
  have vk := vp_in_nI kc (by omega : 120 < 2 ^ 31)
  have lp : ∀ d t, t + d = b + 1 → a ≤ t → ∀ (h2 : AH) (x y z : AV), Cw 113 (l * 12 + m) h h2 → MC h2 (l * 12 + m) (brr D.2.2.2 T l m a c (t - a)) → Ex g mX10_borrow 11 [vR 99, vI (nI l), vI (nI m), vI (nI a), vI (nI b), vI (nI (l * 12 + m)), vI (nI t), x, y, z] [] h2 (0, 0) Q := by
    intro d
    induction d with
    | zero =>
      intro t ht ta h2 x y z cw mc
      have e : t = b + 1 := by omega
      subst e
      refine rX10_borrow_11 ?_
      simp only [bX10_borrow_11, run, Nat.reduceAdd, lg, st1, st2, lkill, lset, fvv, sfv, kind3, cat1, retI, retA, List.length_cons, List.length_nil, true_and, and_true, or_true, true_or, qX10_borrow, show nI b < nI (b + 1) ↔ True from ⟨fun _ => trivial, fun _ => nI_lt (by omega) (by omega)⟩, not_true_eq_false, not_false_eq_true, false_implies, true_and, and_true, tti]
      refine rX10_borrow_144 ?_
      simp only [bX10_borrow_144, run, Nat.reduceAdd, lg, st1, st2, lkill, lset, fvv, sfv, kind3, cat1, retI, retA, List.length_cons, List.length_nil, true_and, and_true, or_true, true_or, qX10_borrow]
      exact hq h2 cw mc
    | succ d ih =>
      intro t ht ta h2 x y z cw mc
      have nx := ih (t + 1) (by omega) (by omega)
      rw [show t + 1 - a = (t - a) + 1 by omega, brr, show a + (t - a) = t by omega] at nx
      generalize brr D.2.2.2 T l m a c (t - a) = c0 at nx mc
      have inner : ∀ d n, n + d = D.2.2.2.length → ∀ (h2 : AH) (y z : AV), Cw 113 (l * 12 + m) h h2 → MC h2 (l * 12 + m) (brw D.2.2.2 T l m t n c0) → Ex g mX10_borrow 21 [vR 99, vI (nI l), vI (nI m), vI (nI a), vI (nI b), vI (nI (l * 12 + m)), vI (nI t), vI (nI n), y, z] [] h2 (0, 0) Q := by
        intro d
        induction d with
        | zero =>
          intro n hn h2 y z cw mc
          have e : n = D.2.2.2.length := by omega
          subst e
          have md2 := md.cw w cw
          have ms := md2.1
          have e11 := md2.2.2.2.1.2.1
          refine rX10_borrow_21 ?_
          simp only [bX10_borrow_21, run, Nat.reduceAdd, lg, st1, st2, lkill, lset, fvv, sfv, kind3, cat1, retI, retA, List.length_cons, List.length_nil, true_and, and_true, or_true, true_or, qX10_borrow, ms.1, e11, show nI D.2.2.2.length ≤ nI D.2.2.2.length ↔ True from ⟨fun _ => trivial, fun _ => nI_le (Nat.le_refl _) (by omega)⟩, not_true_eq_false, not_false_eq_true, false_implies, true_and, and_true, tti]
          refine rX10_borrow_138 ?_
          simp only [bX10_borrow_138, run, Nat.reduceAdd, lg, st1, st2, lkill, lset, fvv, sfv, kind3, cat1, retI, retA, List.length_cons, List.length_nil, true_and, and_true, or_true, true_or, qX10_borrow, nI_1]
          exact nx h2 _ _ _ cw mc
        | succ d ih2 =>
          intro n hn h2 y z cw mc
          have n2 := ih2 (n + 1) (by omega)
          rw [brw] at n2
          have hn1 : n < D.2.2.2.length := by omega
          have md2 := md.cw w cw
          have ms := md2.1
          have e11 := md2.2.2.2.1.2.1
          have kn : (nI n).toNatClampNeg = n := nI_clamp (by omega)
          have vn := vp_in_nI (show n < 12 by omega) (by omega : 12 < 2 ^ 31)
          have nle : nI D.2.2.2.length ≤ nI n ↔ False := ⟨nI_ge (by omega) (by omega), False.elim⟩
          have lt5 := hD5 n hn1
          have skip : ¬ (((D.2.2.2.getD n w0).2.2.1 = l ∧ (D.2.2.2.getD n w0).1 = m ∧ (D.2.2.2.getD n w0).2.2.2 = t) ∧ ¬ (T (D.2.2.2.getD n w0).2.1).1 = []) → ∀ y z : AV, Ex g mX10_borrow 132 [vR 99, vI (nI l), vI (nI m), vI (nI a), vI (nI b), vI (nI (l * 12 + m)), vI (nI t), vI (nI n), y, z] [] h2 (0, 0) Q := fun q y z => by
            rw [if_neg q] at n2
            refine rX10_borrow_132 ?_
            simp only [bX10_borrow_132, run, Nat.reduceAdd, lg, st1, st2, lkill, lset, fvv, sfv, kind3, cat1, retI, retA, List.length_cons, List.length_nil, true_and, and_true, or_true, true_or, qX10_borrow, nI_1]
            exact n2 h2 _ _ cw mc
          rcases md2.2.2.2.1.2.2.2.2 n hn1 with ⟨o0, o1, o2, o3, o4, o5, o6, o7, o8⟩ | ⟨o0, o1⟩
          · have q3 : nI (D.2.2.2.getD n w0).2.2.1 = nI l ↔ (D.2.2.2.getD n w0).2.2.1 = l := nI_eq (by omega) (by omega)
            have q1 : nI (D.2.2.2.getD n w0).1 = nI m ↔ (D.2.2.2.getD n w0).1 = m := nI_eq (by omega) (by omega)
            have q4 : nI (D.2.2.2.getD n w0).2.2.2 = nI t ↔ (D.2.2.2.getD n w0).2.2.2 = t := nI_eq (by omega) (by omega)
            by_cases c3 : (D.2.2.2.getD n w0).2.2.1 = l
            · by_cases c1 : (D.2.2.2.getD n w0).1 = m
              · by_cases c4 : (D.2.2.2.getD n w0).2.2.2 = t
                · have hT1 := hT (D.2.2.2.getD n w0).2.1 (by omega)
                  have mcT := MC.cw cw (by omega) hT1.1
                  have kf : (nI ((D.2.2.2.getD n w0).2.1 * 12 + m)).toNatClampNeg = (D.2.2.2.getD n w0).2.1 * 12 + m := nI_clamp (by omega)
                  have vf := vp_in_nI (show (D.2.2.2.getD n w0).2.1 * 12 + m < 120 by omega) (by omega : 120 < 2 ^ 31)
                  refine rX10_borrow_21 ?_
                  simp only [bX10_borrow_21, run, Nat.reduceAdd, lg, st1, st2, lkill, lset, fvv, sfv, kind3, cat1, retI, retA, List.length_cons, List.length_nil, true_and, and_true, or_true, true_or, qX10_borrow, ms.1, e11, nle, ms.R16, ms.K112, kn, o0, ms.R14, ms.K110, o3, show nI (D.2.2.2.getD n w0).2.2.1 = nI l ↔ True from ⟨fun _ => trivial, fun _ => q3.mpr c3⟩, ms.R12, ms.K108, o1, show nI (D.2.2.2.getD n w0).1 = nI m ↔ True from ⟨fun _ => trivial, fun _ => q1.mpr c1⟩, ms.R15, ms.K111, o4, show nI (D.2.2.2.getD n w0).2.2.2 = nI t ↔ True from ⟨fun _ => trivial, fun _ => q4.mpr c4⟩, not_true_eq_false, not_false_eq_true, false_implies, true_and, and_true, tti]
                  refine ⟨vn, vn, vn, vn, ?_⟩
                  by_cases c5 : (T (D.2.2.2.getD n w0).2.1).1 = []
                  · refine rX10_borrow_77 ?_
                    simp only [bX10_borrow_77, run, Nat.reduceAdd, lg, st1, st2, lkill, lset, fvv, sfv, kind3, cat1, retI, retA, List.length_cons, List.length_nil, true_and, and_true, or_true, true_or, qX10_borrow, ms.1, ms.R17, ms.K113, ms.R13, ms.K109, kn, o2, mk_12, kf, mcT.1, lg_cmp_eq, show wM (T (D.2.2.2.getD n w0).2.1).1 = 1 ↔ True from ⟨fun _ => trivial, fun _ => (wM_1 hT1.2).mpr c5⟩, not_true_eq_false, not_false_eq_true, false_implies, true_and, and_true, tti]
                    refine ⟨vn, vf, ?_⟩
                    have z := skip (fun q => q.2 c5)
                    rw [if_neg (fun q => q.2 c5)] at n2
                    rw [nI_1]
                    exact n2 h2 _ _ cw mc
                  · rw [if_pos ⟨⟨c3, c1, c4⟩, c5⟩] at n2
                    refine rX10_borrow_77 ?_
                    simp only [bX10_borrow_77, run, Nat.reduceAdd, lg, st1, st2, lkill, lset, fvv, sfv, kind3, cat1, retI, retA, List.length_cons, List.length_nil, true_and, and_true, or_true, true_or, qX10_borrow, ms.1, ms.R17, ms.K113, ms.R13, ms.K109, kn, o2, mk_12, kf, mcT.1, lg_cmp_eq, show wM (T (D.2.2.2.getD n w0).2.1).1 = 1 ↔ False from ⟨fun q => c5 ((wM_1 hT1.2).mp q), False.elim⟩, not_true_eq_false, not_false_eq_true, false_implies, true_and, and_true, tti]
                    refine ⟨vn, vf, ?_⟩
                    refine rX10_borrow_106 ?_
                    simp only [bX10_borrow_106, run, Nat.reduceAdd, lg, st1, st2, lkill, lset, fvv, sfv, kind3, cat1, retI, retA, List.length_cons, List.length_nil, true_and, and_true, or_true, true_or, qX10_borrow, kL, kI, kD, kR, rL, rI, rD, iL, iD, iR, lI, lD, lR, ms.1, ms.R17, ms.K113, ms.R18, ms.K114, ms.R19, ms.K115, kk, nI_1, not_true_eq_false, not_false_eq_true, false_implies, true_and, and_true, tti]
                    exact ⟨vk, vk, vk, n2 _ _ _ (cw.tr Cw.w3) (MC.w3 rfl (bI_s n).symm rfl)⟩
                · refine rX10_borrow_21 ?_
                  simp only [bX10_borrow_21, run, Nat.reduceAdd, lg, st1, st2, lkill, lset, fvv, sfv, kind3, cat1, retI, retA, List.length_cons, List.length_nil, true_and, and_true, or_true, true_or, qX10_borrow, ms.1, e11, nle, ms.R16, ms.K112, kn, o0, ms.R14, ms.K110, o3, show nI (D.2.2.2.getD n w0).2.2.1 = nI l ↔ True from ⟨fun _ => trivial, fun _ => q3.mpr c3⟩, ms.R12, ms.K108, o1, show nI (D.2.2.2.getD n w0).1 = nI m ↔ True from ⟨fun _ => trivial, fun _ => q1.mpr c1⟩, ms.R15, ms.K111, o4, show nI (D.2.2.2.getD n w0).2.2.2 = nI t ↔ False from ⟨fun q => c4 (q4.mp q), False.elim⟩, not_true_eq_false, not_false_eq_true, false_implies, true_and, and_true, tti]
                  rw [if_neg (fun q => c4 q.1.2.2)] at n2
                  rw [nI_1]
                  exact ⟨vn, vn, vn, vn, n2 h2 _ _ cw mc⟩
              · refine rX10_borrow_21 ?_
                simp only [bX10_borrow_21, run, Nat.reduceAdd, lg, st1, st2, lkill, lset, fvv, sfv, kind3, cat1, retI, retA, List.length_cons, List.length_nil, true_and, and_true, or_true, true_or, qX10_borrow, ms.1, e11, nle, ms.R16, ms.K112, kn, o0, ms.R14, ms.K110, o3, show nI (D.2.2.2.getD n w0).2.2.1 = nI l ↔ True from ⟨fun _ => trivial, fun _ => q3.mpr c3⟩, ms.R12, ms.K108, o1, show nI (D.2.2.2.getD n w0).1 = nI m ↔ False from ⟨fun q => c1 (q1.mp q), False.elim⟩, not_true_eq_false, not_false_eq_true, false_implies, true_and, and_true, tti]
                exact ⟨vn, vn, vn, skip (fun q => c1 q.1.2.1) _ _⟩
            · refine rX10_borrow_21 ?_
              simp only [bX10_borrow_21, run, Nat.reduceAdd, lg, st1, st2, lkill, lset, fvv, sfv, kind3, cat1, retI, retA, List.length_cons, List.length_nil, true_and, and_true, or_true, true_or, qX10_borrow, ms.1, e11, nle, ms.R16, ms.K112, kn, o0, ms.R14, ms.K110, o3, show nI (D.2.2.2.getD n w0).2.2.1 = nI l ↔ False from ⟨fun q => c3 (q3.mp q), False.elim⟩, not_true_eq_false, not_false_eq_true, false_implies, true_and, and_true, tti]
              exact ⟨vn, vn, skip (fun q => c3 q.1.1) _ _⟩
          · refine rX10_borrow_21 ?_
            simp only [bX10_borrow_21, run, Nat.reduceAdd, lg, st1, st2, lkill, lset, fvv, sfv, kind3, cat1, retI, retA, List.length_cons, List.length_nil, true_and, and_true, or_true, true_or, qX10_borrow, ms.1, e11, nle, ms.R16, ms.K112, kn, o0, show ¬ (1 : Int32) = 0 by decide, not_true_eq_false, not_false_eq_true, false_implies, true_and, and_true, tti]
            exact ⟨vn, skip (fun q => by have := q.1.2.1; omega) _ _⟩
      refine rX10_borrow_11 ?_
      simp only [bX10_borrow_11, run, Nat.reduceAdd, lg, st1, st2, lkill, lset, fvv, sfv, kind3, cat1, retI, retA, List.length_cons, List.length_nil, true_and, and_true, or_true, true_or, qX10_borrow, show nI b < nI t ↔ False from ⟨nI_nlt (by omega) (by omega), False.elim⟩, not_true_eq_false, not_false_eq_true, false_implies, true_and, and_true, tti]
      exact inner _ 0 (Nat.zero_add _) h2 _ _ cw mc
  refine rX10_borrow_0 ?_
  simp only [bX10_borrow_0, run, Nat.reduceAdd, lg, st1, st2, lkill, lset, fvv, sfv, kind3, cat1, retI, retA, List.length_cons, List.length_nil, true_and, and_true, or_true, true_or, qX10_borrow, mk_12]
  exact lp (b + 1 - a) a (by omega) (Nat.le_refl _) h _ _ _ Cw.rf (by rw [Nat.sub_self]; exact hc)
