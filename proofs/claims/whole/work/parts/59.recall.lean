/-! ===== recalling a lost word ===== -/
def wit (D : HD) (f : Nat → Nat) (gv : Nat → List Nat) (m l d : Nat) : Prop := pc D.2.1 d = l + 1 ∧ kin (cel D f gv m d) (cel D f gv m l)
noncomputable def rcs (D : HD) (f : Nat → Nat) (gv : Nat → List Nat) (m l : Nat) : Nat → Nat × (Nat → Nat → Nat)
  | 0 => (0, fun _ _ => 0)
  | d + 1 => @ite _ (wit D f gv m l d) (Classical.propDecidable _) (if (rcs D f gv m l d).1 = 0 then (d + 1, opn (cel D f gv m d).1) else ((rcs D f gv m l d).1, cas (cls f (cel D f gv m ((rcs D f gv m l d).1 - 1)).1 (cel D f gv m d).1) (rcs D f gv m l d).2 (cls f (cel D f gv m ((rcs D f gv m l d).1 - 1)).1 (cel D f gv m d).1).length)) (rcs D f gv m l d)
theorem rcs_p {D : HD} {f : Nat → Nat} {gv : Nat → List Nat} {m l d : Nat} (h : wit D f gv m l d) : rcs D f gv m l (d + 1) = if (rcs D f gv m l d).1 = 0 then (d + 1, opn (cel D f gv m d).1) else ((rcs D f gv m l d).1, cas (cls f (cel D f gv m ((rcs D f gv m l d).1 - 1)).1 (cel D f gv m d).1) (rcs D f gv m l d).2 (cls f (cel D f gv m ((rcs D f gv m l d).1 - 1)).1 (cel D f gv m d).1).length) := if_pos h
theorem rcs_n {D : HD} {f : Nat → Nat} {gv : Nat → List Nat} {m l d : Nat} (h : ¬ wit D f gv m l d) : rcs D f gv m l (d + 1) = rcs D f gv m l d := if_neg h
noncomputable def rcl (D : HD) (f : Nat → Nat) (gv : Nat → List Nat) (m l : Nat) : List Nat := if (rcs D f gv m l D.1).1 = 0 then [] else elc (rcs D f gv m l D.1).2 (cel D f gv m ((rcs D f gv m l D.1).1 - 1)).1.length
theorem rcs_le {D : HD} {f : Nat → Nat} {gv : Nat → List Nat} {m l : Nat} (ok : ∀ d, d < D.1 → Wok (cel D f gv m d).1) : ∀ d, d ≤ D.1 → (rcs D f gv m l d).1 ≤ d ∧ ∀ p s, (rcs D f gv m l d).2 p s ≤ 1 + 20 * d
  | 0, _ => ⟨Nat.le_refl _, fun _ _ => Nat.zero_le _⟩
  | d + 1, hd => by
    have ih := rcs_le (l := l) ok d (by omega)
    by_cases e : wit D f gv m l d
    · rw [rcs_p e]
      split
      · refine ⟨Nat.le_refl _, fun p s => ?_⟩
        show opn _ p s ≤ _
        unfold opn
        split <;> omega
      · next e2 =>
        refine ⟨by show (rcs D f gv m l d).1 ≤ _; omega, fun p s => ?_⟩
        have h1 := (cas_le (cs := cls f (cel D f gv m ((rcs D f gv m l d).1 - 1)).1 (cel D f gv m d).1) (V := (rcs D f gv m l d).2) (p := p) (s := s) (cls f (cel D f gv m ((rcs D f gv m l d).1 - 1)).1 (cel D f gv m d).1).length).2
        have h2 := cls_len (f := f) (ok ((rcs D f gv m l d).1 - 1) (by omega)) (ok d (by omega))
        have h3 := ih.2 p s
        show cas _ _ _ p s ≤ _
        omega
    · rw [rcs_n e]
      exact ⟨by omega, fun p s => by have := ih.2 p s; omega⟩
theorem rcl_ok {D : HD} {f : Nat → Nat} {gv : Nat → List Nat} {m l : Nat} (ok : ∀ d, d < D.1 → Wok (cel D f gv m d).1) : Wok (rcl D f gv m l) := by
  unfold rcl
  split
  · exact wok_nil
  · next e =>
    have := (rcs_le (l := l) ok D.1 (Nat.le_refl _)).1
    exact elc_wok (ok _ (by omega)).1
theorem Kn1.ok {h : AH} {f : Nat → Nat} {gv : Nat → List Nat} {op m l : Nat} {D : HD} (k : Kn1 h f gv op D m) (hm : m < 12) (hl : l < D.1) : cOk 12 9 (cel D f gv m l) := cel_ok k.1.b.ok (k.1.b.2.1.2.2 m hm).1 hl
theorem e_isWitness {g : Gp} {m l d : Nat} {h : AH} {Q : PQ} {f : Nat → Nat} {gv : Nat → List Nat} {op : Nat} {D : HD} (kn : Kn1 h f gv op D m) (hm : m < 12) (hl : l < D.1) (hd : d < D.1)
    (hq : ∀ v : Int32, (wit D f gv m l d → v = 1) → (¬ wit D f gv m l d → v = 0) → Q (.inl (some (vI v))) h) : Ev g mX9_isWitness [vR 4, vI (nI d), vI (nI l), vI (nI m)] h Q := by
  have hb := kn.1.b
  have hD1 := hb.ok.2.1
  obtain ⟨c1, c2, c3, c4, e, xs, c5, c6, c7⟩ := hb.lgs
  obtain ⟨d1, d2, -⟩ := c7 d hd
  have lx := hb.2.2.1.2
  refine nX9_isWitness ?_
  refine rX9_isWitness_0 ?_
  simp only [bX9_isWitness_0, run, Nat.reduceAdd, lg, st1, st2, lkill, lset, fvv, sfv, kind3, cat1, retI, retA, List.length_cons, List.length_nil, true_and, and_true, or_true, true_or, qX9_isWitness, c1, c2, c3, c4, not_true_eq_false, not_false_eq_true, false_implies, true_and, and_true, tti]
  refine sX9_isWitness_8 c5.1 (l_get c5 (by omega) ?_)
  simp only [cont, Option.toList, List.cons_append, List.nil_append]
  have pe : bI (pc D.2.1 d) = nI l ↔ pc D.2.1 d = l + 1 := by
    have p10 : pc D.2.1 d ≤ 10 := by
      unfold pc
      split
      · omega
      · have := hb.ok.2.2.1 d (by omega) hd; omega
    rw [← bI_s]
    exact bI_inj (by omega) (by omega)
  by_cases e1 : pc D.2.1 d = l + 1
  · refine rX9_isWitness_11 ?_
    simp only [bX9_isWitness_11, run, Nat.reduceAdd, lg, st1, st2, lkill, lset, fvv, sfv, kind3, cat1, retI, retA, List.length_cons, List.length_nil, true_and, and_true, or_true, true_or, qX9_isWitness, d1, d2, show bI (pc D.2.1 d) = nI l ↔ True from ⟨fun _ => trivial, fun _ => pe.mpr e1⟩, c1, hb.1.1.2.2.2.2.1, not_true_eq_false, not_false_eq_true, false_implies, true_and, and_true, tti]
    refine sX9_isWitness_28 lx.1 (e_areKin lx (by omega) (by omega) hm (kn.2 d hd) (kn.2 l hl) (kn.ok hm hd) (kn.ok hm hl) ?_)
    simp only [cont, Option.toList, List.cons_append, List.nil_append]
    by_cases ki : kin (cel D f gv m d) (cel D f gv m l)
    · refine rX9_isWitness_31 ?_
      simp only [bX9_isWitness_31, run, Nat.reduceAdd, lg, st1, st2, lkill, lset, fvv, sfv, kind3, cat1, retI, retA, List.length_cons, List.length_nil, true_and, and_true, or_true, true_or, qX9_isWitness, if_pos ki, show ¬ (1 : Int32) = 0 by decide, not_true_eq_false, not_false_eq_true, false_implies, true_and, and_true, tti]
      exact hq 1 (fun _ => rfl) fun q => absurd ⟨e1, ki⟩ q
    · refine rX9_isWitness_31 ?_
      simp only [bX9_isWitness_31, run, Nat.reduceAdd, lg, st1, st2, lkill, lset, fvv, sfv, kind3, cat1, retI, retA, List.length_cons, List.length_nil, true_and, and_true, or_true, true_or, qX9_isWitness, if_neg ki, not_true_eq_false, not_false_eq_true, false_implies, true_and, and_true, tti]
      refine rX9_isWitness_38 ?_
      simp only [bX9_isWitness_38, run, Nat.reduceAdd, lg, st1, st2, lkill, lset, fvv, sfv, kind3, cat1, retI, retA, List.length_cons, List.length_nil, true_and, and_true, or_true, true_or, qX9_isWitness]
      exact hq 0 (fun q => absurd q.2 ki) fun _ => rfl
  · refine rX9_isWitness_11 ?_
    simp only [bX9_isWitness_11, run, Nat.reduceAdd, lg, st1, st2, lkill, lset, fvv, sfv, kind3, cat1, retI, retA, List.length_cons, List.length_nil, true_and, and_true, or_true, true_or, qX9_isWitness, d1, d2, show bI (pc D.2.1 d) = nI l ↔ False from ⟨fun q => e1 (pe.mp q), False.elim⟩, not_true_eq_false, not_false_eq_true, false_implies, true_and, and_true, tti]
    refine rX9_isWitness_38 ?_
    simp only [bX9_isWitness_38, run, Nat.reduceAdd, lg, st1, st2, lkill, lset, fvv, sfv, kind3, cat1, retI, retA, List.length_cons, List.length_nil, true_and, and_true, or_true, true_or, qX9_isWitness]
    exact hq 0 (fun q => absurd q.1 e1) fun _ => rfl
theorem e_recall {g : Gp} {m l : Nat} {h : AH} {Q : PQ} {f : Nat → Nat} {gv : Nat → List Nat} {op : Nat} {D : HD} (kn : Kn1 h f gv op D m) (hm : m < 12) (hl : l < D.1)
    (hq : ∀ h', Kv h h' → Q (.inl (some (vL (eC (rcl D f gv m l))))) h') : Ev g mX9_recall [vR 4, vI (nI l), vI (nI m)] h Q := by
  have hD1 := kn.1.b.ok.2.1
  have ok := fun d hd => (kn.ok hm (l := d) hd).1
  refine nX9_recall ?_
  refine Ex.wf (fun w => ?_)
  have lp : ∀ r d, d + r = D.1 → ∀ (h2 : AH), Kv h h2 → (∀ p, (rcs D f gv m l d).1 ≠ 0 → p < (cel D f gv m ((rcs D f gv m l d).1 - 1)).1.length → VtR h2 p ((rcs D f gv m l d).2 p)) → Ex g mX9_recall 5 [vR 4, vI (nI l), vI (nI m), vI (bI (rcs D f gv m l d).1), vI (nI d)] [] h2 (0, 0) Q := by
    intro r
    induction r with
    | zero =>
      intro d hd h2 kv vt
      have e : d = D.1 := by omega
      subst e
      have kn2 := kv.kn1 w kn
      have hb2 := kn2.1.b
      have lx := hb2.2.2.1.2
      obtain ⟨c1, c2, c3, c4, e, xs, c5, c6, c7⟩ := hb2.lgs
      have z := hq h2 kv
      have bd := rcs_le (l := l) ok D.1 (Nat.le_refl _)
      unfold rcl at z
      refine rX9_recall_5 ?_
      simp only [bX9_recall_5, run, Nat.reduceAdd, lg, st1, st2, lkill, lset, fvv, sfv, kind3, cat1, retI, retA, List.length_cons, List.length_nil, true_and, and_true, or_true, true_or, qX9_recall, c1, c2, c3, c4, not_true_eq_false, not_false_eq_true, false_implies, true_and, and_true, tti]
      refine sX9_recall_14 c5.1 (l_size c5 ?_)
      simp only [cont, Option.toList, List.cons_append, List.nil_append]
      rw [c6]
      refine rX9_recall_17 ?_
      simp only [bX9_recall_17, run, Nat.reduceAdd, lg, st1, st2, lkill, lset, fvv, sfv, kind3, cat1, retI, retA, List.length_cons, List.length_nil, true_and, and_true, or_true, true_or, qX9_recall, show nI D.1 ≤ nI D.1 ↔ True from ⟨fun _ => trivial, fun _ => nI_le (Nat.le_refl _) (by omega)⟩, not_true_eq_false, not_false_eq_true, false_implies, true_and, and_true, tti]
      by_cases e0 : (rcs D f gv m l D.1).1 = 0
      · rw [if_pos e0, eC_nil] at z
        refine rX9_recall_91 ?_
        simp only [bX9_recall_91, run, Nat.reduceAdd, lg, st1, st2, lkill, lset, fvv, sfv, kind3, cat1, retI, retA, List.length_cons, List.length_nil, true_and, and_true, or_true, true_or, qX9_recall, e0, show bI 0 = -1 from bI_0, not_true_eq_false, not_false_eq_true, false_implies, true_and, and_true, tti]
        exact z
      · rw [if_neg e0] at z
        obtain ⟨t, ht⟩ : ∃ t, (rcs D f gv m l D.1).1 = t + 1 := ⟨(rcs D f gv m l D.1).1 - 1, by omega⟩
        have ht1 : t < D.1 := by omega
        rw [ht, Nat.add_sub_cancel] at z vt
        rw [ht, bI_s]
        refine rX9_recall_91 ?_
        simp only [bX9_recall_91, run, Nat.reduceAdd, lg, st1, st2, lkill, lset, fvv, sfv, kind3, cat1, retI, retA, List.length_cons, List.length_nil, true_and, and_true, or_true, true_or, qX9_recall, show nI t = -1 ↔ False from ⟨nI_m1 (by omega), False.elim⟩, not_true_eq_false, not_false_eq_true, false_implies, true_and, and_true, tti]
        refine rX9_recall_100 ?_
        simp only [bX9_recall_100, run, Nat.reduceAdd, lg, st1, st2, lkill, lset, fvv, sfv, kind3, cat1, retI, retA, List.length_cons, List.length_nil, true_and, and_true, or_true, true_or, qX9_recall, c1, hb2.1.1.2.2.2.2.1, not_true_eq_false, not_false_eq_true, false_implies, true_and, and_true, tti]
        refine sX9_recall_107 lx.1 (e_wordOf lx (by omega) hm (kn2.2 t ht1) ?_)
        simp only [cont, Option.toList, List.cons_append, List.nil_append]
        refine sX9_recall_110 (e_size (ok t ht1) ?_)
        simp only [cont, Option.toList, List.cons_append, List.nil_append]
        refine sX9_recall_113 hb2.lgs.1 (e_elected kn2.1 (ok t ht1).1 (fun p hp => vt p (by omega) hp) (fun p s => by have := bd.2 p s; omega) ?_)
        simp only [cont, Option.toList, List.cons_append, List.nil_append]
        refine rX9_recall_116 ?_
        simp only [bX9_recall_116, run, Nat.reduceAdd, lg, st1, st2, lkill, lset, fvv, sfv, kind3, cat1, retI, retA, List.length_cons, List.length_nil, true_and, and_true, or_true, true_or, qX9_recall]
        exact z
    | succ r ih =>
      intro d hd h2 kv vt
      refine Ex.wf (fun w2 => ?_)
      have hd1 : d < D.1 := by omega
      have kn2 := kv.kn1 w kn
      have hb2 := kn2.1.b
      have lx := hb2.2.2.1.2
      obtain ⟨c1, c2, c3, c4, e, xs, c5, c6, c7⟩ := hb2.lgs
      have nx := ih (d + 1) (by omega)
      have bd := rcs_le (l := l) ok d (by omega)
      have sd : nI (d + 1) = nI d + 1 := by rw [← nI_1]
      refine rX9_recall_5 ?_
      simp only [bX9_recall_5, run, Nat.reduceAdd, lg, st1, st2, lkill, lset, fvv, sfv, kind3, cat1, retI, retA, List.length_cons, List.length_nil, true_and, and_true, or_true, true_or, qX9_recall, c1, c2, c3, c4, not_true_eq_false, not_false_eq_true, false_implies, true_and, and_true, tti]
      refine sX9_recall_14 c5.1 (l_size c5 ?_)
      simp only [cont, Option.toList, List.cons_append, List.nil_append]
      rw [c6]
      refine rX9_recall_17 ?_
      simp only [bX9_recall_17, run, Nat.reduceAdd, lg, st1, st2, lkill, lset, fvv, sfv, kind3, cat1, retI, retA, List.length_cons, List.length_nil, true_and, and_true, or_true, true_or, qX9_recall, show nI D.1 ≤ nI d ↔ False from ⟨nI_ge (by omega) (by omega), False.elim⟩, not_true_eq_false, not_false_eq_true, false_implies, true_and, and_true, tti]
      refine sX9_recall_25 hb2.lgs.1 (e_isWitness kn2 hm hl hd1 fun v v1 v0 => ?_)
      simp only [cont, Option.toList, List.cons_append, List.nil_append]
      by_cases wi : wit D f gv m l d
      · rw [v1 wi]
        rw [rcs_p wi] at nx
        by_cases e0 : (rcs D f gv m l d).1 = 0
        · rw [if_pos e0] at nx
          rw [Nat.add_sub_cancel, bI_s] at nx
          refine rX9_recall_28 ?_
          simp only [bX9_recall_28, run, Nat.reduceAdd, lg, st1, st2, lkill, lset, fvv, sfv, kind3, cat1, retI, retA, List.length_cons, List.length_nil, true_and, and_true, or_true, true_or, qX9_recall, e0, show ¬ (1 : Int32) = 0 by decide, show bI 0 = -1 from bI_0, c1, hb2.1.1.2.2.2.2.1, not_true_eq_false, not_false_eq_true, false_implies, true_and, and_true, tti]
          refine sX9_recall_46 lx.1 (e_wordOf lx (by omega) hm (kn2.2 d hd1) ?_)
          simp only [cont, Option.toList, List.cons_append, List.nil_append]
          refine sX9_recall_49 hb2.lgs.1 (e_openVotes kn2.1 (ok d hd1) fun h3 kv3 vt3 => ?_)
          simp only [cont, Option.toList, List.cons_append, List.nil_append]
          refine rX9_recall_52 ?_
          simp only [bX9_recall_52, run, Nat.reduceAdd, lg, st1, st2, lkill, lset, fvv, sfv, kind3, cat1, retI, retA, List.length_cons, List.length_nil, true_and, and_true, or_true, true_or, qX9_recall, nI_1]
          exact nx h3 (kv.tr kv3) fun p _ hp => vt3 p hp
        · rw [if_neg e0] at nx
          obtain ⟨t, ht⟩ : ∃ t, (rcs D f gv m l d).1 = t + 1 := ⟨(rcs D f gv m l d).1 - 1, by omega⟩
          have ht1 : t < D.1 := by omega
          rw [ht, Nat.add_sub_cancel] at nx vt
          rw [ht, bI_s]
          rw [bI_s] at nx
          have al := hb2.2.2.2.2.2.1
          have len := cls_len (f := f) (ok t ht1) (ok d hd1)
          refine rX9_recall_28 ?_
          simp only [bX9_recall_28, run, Nat.reduceAdd, lg, st1, st2, lkill, lset, fvv, sfv, kind3, cat1, retI, retA, List.length_cons, List.length_nil, true_and, and_true, or_true, true_or, qX9_recall, show ¬ (1 : Int32) = 0 by decide, show nI t = -1 ↔ False from ⟨nI_m1 (by omega), False.elim⟩, not_true_eq_false, not_false_eq_true, false_implies, true_and, and_true, tti]
          refine rX9_recall_55 ?_
          simp only [bX9_recall_55, run, Nat.reduceAdd, lg, st1, st2, lkill, lset, fvv, sfv, kind3, cat1, retI, retA, List.length_cons, List.length_nil, true_and, and_true, or_true, true_or, qX9_recall, c1, hb2.1.1.2.2.2.2.1, hb2.1.1.2.2.2.2.2.2.2.1, not_true_eq_false, not_false_eq_true, false_implies, true_and, and_true, tti]
          refine sX9_recall_66 lx.1 (e_wordOf lx (by omega) hm (kn2.2 t ht1) ?_)
          simp only [cont, Option.toList, List.cons_append, List.nil_append]
          refine rX9_recall_69 ?_
          simp only [bX9_recall_69, run, Nat.reduceAdd, lg, st1, st2, lkill, lset, fvv, sfv, kind3, cat1, retI, retA, List.length_cons, List.length_nil, true_and, and_true, or_true, true_or, qX9_recall, c1, hb2.1.1.2.2.2.2.1, not_true_eq_false, not_false_eq_true, false_implies, true_and, and_true, tti]
          refine sX9_recall_76 lx.1 (e_wordOf lx (by omega) hm (kn2.2 d hd1) ?_)
          simp only [cont, Option.toList, List.cons_append, List.nil_append]
          refine sX9_recall_79 al.1 (e_align hb2.2.1.1 al (ok t ht1) (ok d hd1) fun h3 k3 r3 kp3 col3 => ?_)
          simp only [cont, Option.toList, List.cons_append, List.nil_append]
          have kv3 := Kv.of64 k3 r3 kp3
          have fr3 := kv3.fam w2 kn2.1
          have v := hb2.2.2.2.2.2.2.1
          refine sX9_recall_82 fr3.b.lgs.1 (e_castVotes fr3 (L := (cel D f gv m t).1.length) (V := (rcs D f gv m l d).2) (ok t ht1).1 col3 len (fun k hk => ?_) (fun k hk => ngp_lt (ok t ht1).2 hk) (fun p hp => VtR.kp w2 v (by have := (ok t ht1).1; omega) kp3 (by omega) (vt p (by omega) hp)) fun h4 kv4 vt4 => ?_)
          · have e9 : (cls f (cel D f gv m t).1 (cel D f gv m d).1).getD k (0, 0) ∈ cls f (cel D f gv m t).1 (cel D f gv m d).1 := by
              rw [List.getD_eq_getElem?_getD, List.getElem?_eq_getElem hk]
              exact List.getElem_mem hk
            exact clf_le _ _ _ (ok t ht1).2 (ok d hd1).2 _ e9
          simp only [cont, Option.toList, List.cons_append, List.nil_append]
          refine rX9_recall_85 ?_
          simp only [bX9_recall_85, run, Nat.reduceAdd, lg, st1, st2, lkill, lset, fvv, sfv, kind3, cat1, retI, retA, List.length_cons, List.length_nil, true_and, and_true, or_true, true_or, qX9_recall, nI_1]
          exact nx h4 ((kv.tr kv3).tr kv4) fun p _ hp => vt4 p hp
      · rw [v0 wi]
        rw [rcs_n wi] at nx
        refine rX9_recall_28 ?_
        simp only [bX9_recall_28, run, Nat.reduceAdd, lg, st1, st2, lkill, lset, fvv, sfv, kind3, cat1, retI, retA, List.length_cons, List.length_nil, true_and, and_true, or_true, true_or, qX9_recall, not_true_eq_false, not_false_eq_true, false_implies, true_and, and_true, tti]
        refine rX9_recall_85 ?_
        simp only [bX9_recall_85, run, Nat.reduceAdd, lg, st1, st2, lkill, lset, fvv, sfv, kind3, cat1, retI, retA, List.length_cons, List.length_nil, true_and, and_true, or_true, true_or, qX9_recall, nI_1]
        exact nx h2 kv vt
  refine rX9_recall_0 ?_
  simp only [bX9_recall_0, run, Nat.reduceAdd, lg, st1, st2, lkill, lset, fvv, sfv, kind3, cat1, retI, retA, List.length_cons, List.length_nil, true_and, and_true, or_true, true_or, qX9_recall]
  exact lp D.1 0 (Nat.zero_add _) h Kv.rf fun p q => absurd rfl q
