/-! ===== what answers to a sound ===== -/
def cot (cs : List (Nat × Nat)) (s t : Nat) : Nat → Nat
  | 0 => 0
  | k + 1 => if (cs.getD k (0, 0)).1 = s ∧ (cs.getD k (0, 0)).2 = t then cot cs s t k + 1 else cot cs s t k
theorem cot_le {cs : List (Nat × Nat)} {s t : Nat} : ∀ k, cot cs s t k ≤ k
  | 0 => Nat.le_refl _
  | k + 1 => by
    have := cot_le (cs := cs) (s := s) (t := t) k
    unfold cot
    split <;> omega
def ans (C : Nat → List (Nat × Nat)) (s t : Nat) : Nat → Nat
  | 0 => 0
  | m + 1 => ans C s t m + cot (C m) s t (C m).length
theorem ans_le {C : Nat → List (Nat × Nat)} {s t : Nat} : ∀ m, (∀ k, k < m → (C k).length ≤ 20) → ans C s t m ≤ 20 * m
  | 0, _ => Nat.le_refl _
  | m + 1, h => by
    have h1 := ans_le m (C := C) (s := s) (t := t) fun k hk => h k (by omega)
    have h2 := cot_le (cs := C m) (s := s) (t := t) (C m).length
    have h3 := h m (by omega)
    unfold ans
    omega
/-- the columns of two words of one origin -/
def kcl (f : Nat → Nat) (c d : Cell3) : List (Nat × Nat) := if kin c d then clo f c.1 d.1 else []
theorem kcl_len {f : Nat → Nat} {c d : Cell3} (hc : Wok c.1) (hd : Wok d.1) : (kcl f c d).length ≤ 20 := by
  unfold kcl
  split
  · exact clo_len hc hd
  · simp
theorem kcl_le {f : Nat → Nat} {c d : Cell3} (hc : Wok c.1) (hd : Wok d.1) {k : Nat} (hk : k < (kcl f c d).length) : ((kcl f c d).getD k (0, 0)).1 ≤ 16 ∧ ((kcl f c d).getD k (0, 0)).2 ≤ 16 := by
  revert hk
  unfold kcl
  split
  · exact fun hk => clo_le hc hd hk
  · intro hk; exact absurd hk (by simp)
theorem VtR.kp {h h' : AH} {i : Nat} {c : Nat → Nat} {S : Nat → Prop} (w : Wf h) (hv : VtS h) (hi : i < 10) (k : Kp S h h') (hS : ¬ S (67 + 2 * i)) (x : VtR h i c) : VtR h' i c := fun s hs => by
  rw [(k.2.2 (67 + 2 * i) (w.lt (hv.2 i hi).2.2.2 (by decide)) hS).1]
  exact x s hs
theorem VtR.add {h : AH} {i s : Nat} {c : Nat → Nat} (x : VtR h i c) : VtR (sI h (67 + 2 * i) s (nI (c s + 1))) i (fun t => if t = s then c t + 1 else c t) := fun t ht => by
  rw [zI_sI]
  show _ = nI (if t = s then c t + 1 else c t)
  by_cases e : t = s
  · subst e; rw [up1_s, if_pos rfl]
  · rw [up1_n _ _ e, if_neg e]; exact x t ht
theorem ColR.kp {h h' : AH} {cs : List (Nat × Nat)} {S : Nat → Prop} (w : Wf h) (al : AlS h) (k : Kp S h h') (h1 : ¬ S 63) (h2 : ¬ S 64) (x : ColR h cs) : ColR h' cs := fun j hj => by
  rw [(k.2.2 63 (w.lt al.2.2.2.2.2.2.2.2.2.2.1 (by decide)) h1).1, (k.2.2 64 (w.lt al.2.2.2.2.2.2.2.2.2.2.2.1 (by decide)) h2).1]
  exact x j hj
theorem e_collectAnswers {g : Gp} {i j s : Nat} {h : AH} {Q : PQ} {f : Nat → Nat} {gv : Nat → List Nat} {op : Nat} {D : HD} (kn : KnA h f gv op D) (hi : i < D.1) (hj : j < D.1) (hs : s < 17)
    (hq : ∀ h', Kv h h' → VtR h' 0 (fun t => ans (fun m => kcl f (cel D f gv m i) (cel D f gv m j)) s t 12) → Q (.inl none) h') : Ev g mX9_collectAnswers [vR 4, vI (nI i), vI (nI j), vI (nI s)] h Q := by
  have hb := kn.1.b
  have hD1 := hb.ok.2.1
  refine nX9_collectAnswers ?_
  refine Ex.wf (fun w => ?_)
  have c1 := hb.1.1.1
  obtain ⟨-, f0, f1, f3, f4, f5, f6, f7, f8, f9, -⟩ := hb.1.1
  have v := hb.2.2.2.2.2.2.1
  have v0 := v.2 0 (by decide)
  refine rX9_collectAnswers_0 ?_
  simp only [bX9_collectAnswers_0, run, Nat.reduceAdd, lg, st1, st2, lkill, lset, fvv, sfv, kind3, cat1, retI, retA, List.length_cons, List.length_nil, true_and, and_true, or_true, true_or, qX9_collectAnswers, c1, f8, v.1, show Int32.toNatClampNeg 0 = 0 from rfl, v0.1, not_true_eq_false, not_false_eq_true, false_implies, true_and, and_true, tti]
  refine ⟨vp_0 (by decide) (by decide), sX9_collectAnswers_6 v0.2.1 (e_clear v (by decide) fun h1 k1 r1 _ kp1 vt1 => ?_)⟩
  simp only [cont, Option.toList, List.cons_append, List.nil_append]
  have y1 : Kv h h1 := ⟨k1, r1, kp1.mono fun a _ q => by omega⟩
  have lp : ∀ d m, m + d = 12 → ∀ (y z : AV) (h2 : AH), Kv h h2 → VtR h2 0 (fun t => ans (fun m => kcl f (cel D f gv m i) (cel D f gv m j)) s t m) → Ex g mX9_collectAnswers 12 [vR 4, vI (nI i), vI (nI j), vI (nI s), vI (nI m), y, z] [] h2 (0, 0) Q := by
    intro d
    induction d with
    | zero =>
      intro m hm y z h2 kv2 vt2
      have e : m = 12 := by omega
      subst e
      refine rX9_collectAnswers_12 ?_
      simp only [bX9_collectAnswers_12, run, Nat.reduceAdd, lg, st1, st2, lkill, lset, fvv, sfv, kind3, cat1, retI, retA, List.length_cons, List.length_nil, true_and, and_true, or_true, true_or, qX9_collectAnswers, show ((12 : Int32) ≤ nI 12) = True by decide, not_true_eq_false, not_false_eq_true, false_implies, true_and, and_true, tti]
      refine rX9_collectAnswers_100 ?_
      simp only [bX9_collectAnswers_100, run, Nat.reduceAdd, lg, st1, st2, lkill, lset, fvv, sfv, kind3, cat1, retI, retA, List.length_cons, List.length_nil, true_and, and_true, or_true, true_or, qX9_collectAnswers]
      exact hq h2 kv2 vt2
    | succ d ih =>
      intro m hm y z h2 kv2 vt2
      refine Ex.wf (fun w2 => ?_)
      have hm12 : m < 12 := by omega
      have kn2 := kv2.knA w kn
      have hb2 := kn2.1.b
      have oki := kn2.ok hm12 hi
      have okj := kn2.ok hm12 hj
      have lx := hb2.2.2.1.2
      have nx := ih (m + 1) (by omega)
      rw [show (fun t => ans (fun m => kcl f (cel D f gv m i) (cel D f gv m j)) s t (m + 1)) = fun t => ans (fun m => kcl f (cel D f gv m i) (cel D f gv m j)) s t m + cot (kcl f (cel D f gv m i) (cel D f gv m j)) s t (kcl f (cel D f gv m i) (cel D f gv m j)).length from rfl] at nx
      generalize hA : (fun t => ans (fun m => kcl f (cel D f gv m i) (cel D f gv m j)) s t m) = A at vt2
      have nx2 : ∀ (y z : AV) (h2 : AH), Kv h h2 → VtR h2 0 (fun t => A t + cot (kcl f (cel D f gv m i) (cel D f gv m j)) s t (kcl f (cel D f gv m i) (cel D f gv m j)).length) → Ex g mX9_collectAnswers 12 [vR 4, vI (nI i), vI (nI j), vI (nI s), vI (nI (m + 1)), y, z] [] h2 (0, 0) Q := by
        rw [← hA]; exact nx
      have len := kcl_len (f := f) oki.1 okj.1
      have clle := fun {k} hk => kcl_le (f := f) oki.1 okj.1 (k := k) hk
      have inner : ∀ d k, k + d = (kcl f (cel D f gv m i) (cel D f gv m j)).length → ∀ h3, Kv h h3 → ColR h3 (kcl f (cel D f gv m i) (cel D f gv m j)) → VtR h3 0 (fun t => A t + cot (kcl f (cel D f gv m i) (cel D f gv m j)) s t k) → Ex g mX9_collectAnswers 50 [vR 4, vI (nI i), vI (nI j), vI (nI s), vI (nI m), vI (nI (kcl f (cel D f gv m i) (cel D f gv m j)).length), vI (nI k)] [] h3 (0, 0) Q := by
        generalize kcl f (cel D f gv m i) (cel D f gv m j) = cs at nx2 len clle
        intro d
        induction d with
        | zero =>
          intro k hk h3 kv3 col3 vt3
          have e : k = cs.length := by omega
          subst e
          refine rX9_collectAnswers_50 ?_
          simp only [bX9_collectAnswers_50, run, Nat.reduceAdd, lg, st1, st2, lkill, lset, fvv, sfv, kind3, cat1, retI, retA, List.length_cons, List.length_nil, true_and, and_true, or_true, true_or, qX9_collectAnswers, show nI cs.length ≤ nI cs.length ↔ True from ⟨fun _ => trivial, fun _ => nI_le (Nat.le_refl _) (by omega)⟩, not_true_eq_false, not_false_eq_true, false_implies, true_and, and_true, tti]
          refine rX9_collectAnswers_94 ?_
          simp only [bX9_collectAnswers_94, run, Nat.reduceAdd, lg, st1, st2, lkill, lset, fvv, sfv, kind3, cat1, retI, retA, List.length_cons, List.length_nil, true_and, and_true, or_true, true_or, qX9_collectAnswers, nI_1]
          exact nx2 _ _ h3 kv3 vt3
        | succ d ih2 =>
          intro k hk h3 kv3 col3 vt3
          refine Ex.wf (fun w3 => ?_)
          have kn3 := kv3.knA w kn
          have hb3 := kn3.1.b
          have al := hb3.2.2.2.2.2.1
          have n2 := ih2 (k + 1) (by omega)
          have hkl : k < cs.length := by omega
          obtain ⟨le1, le2⟩ := clle hkl
          obtain ⟨-, -, -, -, -, -, -, f7, f8, -⟩ := hb3.1.1
          refine rX9_collectAnswers_50 ?_
          simp only [bX9_collectAnswers_50, run, Nat.reduceAdd, lg, st1, st2, lkill, lset, fvv, sfv, kind3, cat1, retI, retA, List.length_cons, List.length_nil, true_and, and_true, or_true, true_or, qX9_collectAnswers, show nI cs.length ≤ nI k ↔ False from ⟨nI_ge (by omega) (by omega), False.elim⟩, hb3.1.1.1, f7, not_true_eq_false, not_false_eq_true, false_implies, true_and, and_true, tti]
          refine sX9_collectAnswers_63 al.1 (e_upperAt al col3 hkl len ?_)
          simp only [cont, Option.toList, List.cons_append, List.nil_append]
          by_cases e : (cs.getD k (0, 0)).1 = s
          · have v3 := hb3.2.2.2.2.2.2.1
            have v30 := v3.2 0 (by decide)
            refine rX9_collectAnswers_66 ?_
            simp only [bX9_collectAnswers_66, run, Nat.reduceAdd, lg, st1, st2, lkill, lset, fvv, sfv, kind3, cat1, retI, retA, List.length_cons, List.length_nil, true_and, and_true, or_true, true_or, qX9_collectAnswers, show nI (cs.getD k (0, 0)).1 = nI s ↔ True from ⟨fun _ => trivial, fun _ => by rw [e]⟩, hb3.1.1.1, f7, f8, v3.1, show Int32.toNatClampNeg 0 = 0 from rfl, v30.1, not_true_eq_false, not_false_eq_true, false_implies, true_and, and_true, tti]
            refine ⟨vp_0 (by decide) (by decide), sX9_collectAnswers_82 al.1 (e_lowerAt al col3 hkl len ?_)⟩
            simp only [cont, Option.toList, List.cons_append, List.nil_append]
            refine sX9_collectAnswers_85 v30.2.1 (e_vadd v3 (by decide) (by omega) vt3 ?_)
            simp only [cont, Option.toList, List.cons_append, List.nil_append]
            refine rX9_collectAnswers_88 ?_
            simp only [bX9_collectAnswers_88, run, Nat.reduceAdd, lg, st1, st2, lkill, lset, fvv, sfv, kind3, cat1, retI, retA, List.length_cons, List.length_nil, true_and, and_true, or_true, true_or, qX9_collectAnswers, nI_1]
            have kp : Kp (fun a => a = 67) h3 (sI h3 (67 + 2 * 0) (cs.getD k (0, 0)).2 (nI (A (cs.getD k (0, 0)).2 + cot cs s (cs.getD k (0, 0)).2 k + 1))) := Kp.sI rfl
            refine n2 _ (kv3.tr ⟨rfl, rfl, kp.mono fun a _ q => by omega⟩) (ColR.kp w3 al kp (by decide) (by decide) col3) ?_
            have t := vt3.add (s := (cs.getD k (0, 0)).2)
            have e2 : (fun t => A t + cot cs s t (k + 1)) = fun t => if t = (cs.getD k (0, 0)).2 then A t + cot cs s t k + 1 else A t + cot cs s t k := by
              funext t
              rw [show cot cs s t (k + 1) = if (cs.getD k (0, 0)).1 = s ∧ (cs.getD k (0, 0)).2 = t then cot cs s t k + 1 else cot cs s t k from rfl]
              by_cases e9 : t = (cs.getD k (0, 0)).2
              · rw [if_pos ⟨e, e9.symm⟩, if_pos e9]; rfl
              · rw [if_neg (fun q => e9 q.2.symm), if_neg e9]
            rw [e2]
            exact t
          · refine rX9_collectAnswers_66 ?_
            simp only [bX9_collectAnswers_66, run, Nat.reduceAdd, lg, st1, st2, lkill, lset, fvv, sfv, kind3, cat1, retI, retA, List.length_cons, List.length_nil, true_and, and_true, or_true, true_or, qX9_collectAnswers, show nI (cs.getD k (0, 0)).1 = nI s ↔ False from ⟨fun q => e ((nI_eq (by omega) (by omega)).mp q), False.elim⟩, not_true_eq_false, not_false_eq_true, false_implies, true_and, and_true, tti]
            refine rX9_collectAnswers_88 ?_
            simp only [bX9_collectAnswers_88, run, Nat.reduceAdd, lg, st1, st2, lkill, lset, fvv, sfv, kind3, cat1, retI, retA, List.length_cons, List.length_nil, true_and, and_true, or_true, true_or, qX9_collectAnswers, nI_1]
            refine n2 h3 kv3 col3 ?_
            have e2 : (fun t => A t + cot cs s t (k + 1)) = fun t => A t + cot cs s t k := by
              funext t
              rw [show cot cs s t (k + 1) = if (cs.getD k (0, 0)).1 = s ∧ (cs.getD k (0, 0)).2 = t then cot cs s t k + 1 else cot cs s t k from rfl, if_neg (fun q => e q.1)]
            rw [e2]
            exact vt3
      obtain ⟨-, -, -, -, f4, -⟩ := hb2.1.1
      refine rX9_collectAnswers_12 ?_
      simp only [bX9_collectAnswers_12, run, Nat.reduceAdd, lg, st1, st2, lkill, lset, fvv, sfv, kind3, cat1, retI, retA, List.length_cons, List.length_nil, true_and, and_true, or_true, true_or, qX9_collectAnswers, show ((12 : Int32) ≤ nI m) ↔ False from ⟨nI_ge (b := 12) (by omega) (by omega), False.elim⟩, hb2.1.1.1, f4, not_true_eq_false, not_false_eq_true, false_implies, true_and, and_true, tti]
      refine sX9_collectAnswers_27 lx.1 (e_areKin lx (by omega) (by omega) hm12 (kn2.2 m hm12 i hi) (kn2.2 m hm12 j hj) oki okj ?_)
      simp only [cont, Option.toList, List.cons_append, List.nil_append]
      by_cases ki : kin (cel D f gv m i) (cel D f gv m j)
      · have eK : kcl f (cel D f gv m i) (cel D f gv m j) = clo f (cel D f gv m i).1 (cel D f gv m j).1 := if_pos ki
        rw [eK] at inner
        refine rX9_collectAnswers_30 ?_
        simp only [bX9_collectAnswers_30, run, Nat.reduceAdd, lg, st1, st2, lkill, lset, fvv, sfv, kind3, cat1, retI, retA, List.length_cons, List.length_nil, true_and, and_true, or_true, true_or, qX9_collectAnswers, if_pos ki, show ¬ (1 : Int32) = 0 by decide, not_true_eq_false, not_false_eq_true, false_implies, true_and, and_true, tti]
        refine sX9_collectAnswers_38 hb2.lgs.1 (e_layOut (kn2.at1 hm12) hm12 hi hj fun h3 k3 r3 kp3 col3 => ?_)
        simp only [cont, Option.toList, List.cons_append, List.nil_append]
        refine rX9_collectAnswers_41 ?_
        simp only [bX9_collectAnswers_41, run, Nat.reduceAdd, lg, st1, st2, lkill, lset, fvv, sfv, kind3, cat1, retI, retA, List.length_cons, List.length_nil, true_and, and_true, or_true, true_or, qX9_collectAnswers]
        have y3 := Kv.of64 k3 r3 kp3
        exact inner _ 0 (Nat.zero_add _) h3 (kv2.tr y3) col3 (VtR.kp w2 hb2.2.2.2.2.2.2.1 (by decide) kp3 (by decide) vt2)
      · have eK : kcl f (cel D f gv m i) (cel D f gv m j) = [] := if_neg ki
        rw [eK] at inner
        refine rX9_collectAnswers_30 ?_
        simp only [bX9_collectAnswers_30, run, Nat.reduceAdd, lg, st1, st2, lkill, lset, fvv, sfv, kind3, cat1, retI, retA, List.length_cons, List.length_nil, true_and, and_true, or_true, true_or, qX9_collectAnswers, if_neg ki, not_true_eq_false, not_false_eq_true, false_implies, true_and, and_true, tti]
        refine rX9_collectAnswers_44 ?_
        simp only [bX9_collectAnswers_44, run, Nat.reduceAdd, lg, st1, st2, lkill, lset, fvv, sfv, kind3, cat1, retI, retA, List.length_cons, List.length_nil, true_and, and_true, or_true, true_or, qX9_collectAnswers]
        exact inner 0 0 rfl h2 kv2 (fun k hk => absurd hk (Nat.not_lt_zero _)) vt2
  refine rX9_collectAnswers_9 ?_
  simp only [bX9_collectAnswers_9, run, Nat.reduceAdd, lg, st1, st2, lkill, lset, fvv, sfv, kind3, cat1, retI, retA, List.length_cons, List.length_nil, true_and, and_true, or_true, true_or, qX9_collectAnswers]
  refine lp 12 0 rfl _ _ h1 y1 ?_
  exact vt1
def okN (x : Int32) : Bool := decide (x = -1) || inb x 16
theorem okN_t {x : Int32} (h : okN x = true) : ∃ s, s ≤ 16 ∧ x = bI s := by
  unfold okN at h
  rw [Bool.or_eq_true, decide_eq_true_eq] at h
  rcases h with h | h
  · exact ⟨0, by decide, by rw [h]; decide⟩
  · obtain ⟨j, hj, e⟩ := inb_t (by decide) h
    exact ⟨j + 1, hj, by rw [e, bI_s]⟩
/-- the sign of a sound, or of none (0) -/
def sg (s : Nat) : Nat := if s = 0 then 16 else s - 1
theorem sg_lt {s : Nat} (h : s ≤ 16) : sg s < 17 := by
  unfold sg
  split <;> omega
theorem e_isSoundOrNone {g : Gp} {x : Int32} {h : AH} {Q : PQ} (hq : Q (.inl (some (vI (bi (okN x))))) h) : Ev g mX9_isSoundOrNone [vI x] h Q := by
  refine nX9_isSoundOrNone ?_
  unfold okN at hq
  by_cases e : x = -1
  · rw [decide_eq_true e] at hq
    refine rX9_isSoundOrNone_0 ?_
    simp only [bX9_isSoundOrNone_0, run, Nat.reduceAdd, lg, st1, st2, lkill, lset, fvv, sfv, kind3, cat1, retI, retA, List.length_cons, List.length_nil, true_and, and_true, or_true, true_or, qX9_isSoundOrNone, e, not_true_eq_false, not_false_eq_true, false_implies, true_and, and_true, tti]
    refine rX9_isSoundOrNone_12 ?_
    simp only [bX9_isSoundOrNone_12, run, Nat.reduceAdd, lg, st1, st2, lkill, lset, fvv, sfv, kind3, cat1, retI, retA, List.length_cons, List.length_nil, true_and, and_true, or_true, true_or, qX9_isSoundOrNone]
    exact hq
  · rw [decide_eq_false e] at hq
    refine rX9_isSoundOrNone_0 ?_
    simp only [bX9_isSoundOrNone_0, run, Nat.reduceAdd, lg, st1, st2, lkill, lset, fvv, sfv, kind3, cat1, retI, retA, List.length_cons, List.length_nil, true_and, and_true, or_true, true_or, qX9_isSoundOrNone, e, not_true_eq_false, not_false_eq_true, false_implies, true_and, and_true, tti]
    refine sX9_isSoundOrNone_6 (e_isSound ?_)
    simp only [cont, Option.toList, List.cons_append, List.nil_append]
    cases e2 : inb x 16 with
    | false =>
      rw [e2] at hq
      refine rX9_isSoundOrNone_9 ?_
      simp only [bX9_isSoundOrNone_9, run, Nat.reduceAdd, lg, st1, st2, lkill, lset, fvv, sfv, kind3, cat1, retI, retA, List.length_cons, List.length_nil, true_and, and_true, or_true, true_or, qX9_isSoundOrNone, show bi false = 0 from rfl, not_true_eq_false, not_false_eq_true, false_implies, true_and, and_true, tti]
      refine rX9_isSoundOrNone_16 ?_
      simp only [bX9_isSoundOrNone_16, run, Nat.reduceAdd, lg, st1, st2, lkill, lset, fvv, sfv, kind3, cat1, retI, retA, List.length_cons, List.length_nil, true_and, and_true, or_true, true_or, qX9_isSoundOrNone]
      exact hq
    | true =>
      rw [e2] at hq
      refine rX9_isSoundOrNone_9 ?_
      simp only [bX9_isSoundOrNone_9, run, Nat.reduceAdd, lg, st1, st2, lkill, lset, fvv, sfv, kind3, cat1, retI, retA, List.length_cons, List.length_nil, true_and, and_true, or_true, true_or, qX9_isSoundOrNone, show ¬ bi true = 0 by decide, not_true_eq_false, not_false_eq_true, false_implies, true_and, and_true, tti]
      exact hq
theorem e_columnSign {g : Gp} {s : Nat} {h : AH} {Q : PQ} (hs : s ≤ 16) (hq : Q (.inl (some (vI (nI (sg s))))) h) : Ev g mX9_columnSign [vI (bI s)] h Q := by
  refine nX9_columnSign ?_
  unfold sg at hq
  by_cases e : s = 0
  · subst e
    refine rX9_columnSign_0 ?_
    simp only [bX9_columnSign_0, run, Nat.reduceAdd, lg, st1, st2, lkill, lset, fvv, sfv, kind3, cat1, retI, retA, List.length_cons, List.length_nil, true_and, and_true, or_true, true_or, qX9_columnSign, show bI 0 = -1 from bI_0, not_true_eq_false, not_false_eq_true, false_implies, true_and, and_true, tti]
    exact hq
  · obtain ⟨t, rfl⟩ : ∃ t, s = t + 1 := ⟨s - 1, by omega⟩
    rw [if_neg e] at hq
    refine rX9_columnSign_0 ?_
    simp only [bX9_columnSign_0, run, Nat.reduceAdd, lg, st1, st2, lkill, lset, fvv, sfv, kind3, cat1, retI, retA, List.length_cons, List.length_nil, true_and, and_true, or_true, true_or, qX9_columnSign, bI_s, show nI t = -1 ↔ False from ⟨nI_m1 (by omega), False.elim⟩, not_true_eq_false, not_false_eq_true, false_implies, true_and, and_true, tti]
    refine rX9_columnSign_10 ?_
    simp only [bX9_columnSign_10, run, Nat.reduceAdd, lg, st1, st2, lkill, lset, fvv, sfv, kind3, cat1, retI, retA, List.length_cons, List.length_nil, true_and, and_true, or_true, true_or, qX9_columnSign, bI_s]
    exact hq
