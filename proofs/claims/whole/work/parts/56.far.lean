/-! ===== far, nearest ===== -/
def Ku (h h' : AH) : Prop := zK h' = zK h ∧ zR h' = zR h ∧ Kp (fun a => (48 ≤ a ∧ a ≤ 85) ∨ (87 ≤ a ∧ a ≤ 98)) h h'
theorem Ku.rf {h : AH} : Ku h h := ⟨rfl, rfl, Kp.rf⟩
theorem Ku.tr {h1 h2 h3 : AH} (x : Ku h1 h2) (y : Ku h2 h3) : Ku h1 h3 := ⟨y.1.trans x.1, y.2.1.trans x.2.1, x.2.2.tr y.2.2⟩
theorem Kc.u {m : Nat} {h h' : AH} (hm : m < 12) (y : Kc m h h') : Ku h h' := ⟨y.1, y.2.1, y.2.2.mono fun a _ q => by omega⟩
theorem Kv.u {h h' : AH} (y : Kv h h') : Ku h h' := ⟨y.1, y.2.1, y.2.2.mono fun a _ q => Or.inl q⟩
theorem Ku.fc {h h' : AH} (y : Ku h h') : Fc h h' := y.2.2.fc fun a q => by omega
theorem Ku.cr {k b x : Nat} {h h' : AH} {c : Cell3} (w : Wf h) (lx : LxS h x b) (y : Ku h h') (hb : b + 3 < 48) (hc : CR h b k c) : CR h' b k c := by
  obtain ⟨-, -, -, -, -, -, -, d1, d2, d3, -⟩ := lx
  have s1 := y.2.2.2.2 b (w.lt d1 (by decide)) (by omega)
  have s2 := y.2.2.2.2 (b + 1) (w.lt d2 (by decide)) (by omega)
  have s3 := y.2.2.2.2 (b + 2) (w.lt d3 (by decide)) (by omega)
  exact ⟨by rw [s1.2.1]; exact hc.1, by rw [s2.1]; exact hc.2.1, by rw [s3.1]; exact hc.2.2⟩
theorem Ku.knA {h h' : AH} {f : Nat → Nat} {gv : Nat → List Nat} {op : Nat} {D : HD} (w : Wf h) (kn : KnA h f gv op D) (y : Ku h h') (fr : FamR h' f gv op D) : KnA h' f gv op D := ⟨fr, fun m hm l hl => y.cr w kn.1.b.2.2.1.2 (by decide) (kn.2 m hm l hl)⟩
/-- costs together, and how many -/
def dsm (C : Nat → Option Nat) : Nat → Nat × Nat
  | 0 => (0, 0)
  | m + 1 => match C m with
    | none => dsm C m
    | some c => ((dsm C m).1 + c, (dsm C m).2 + 1)
theorem dsm_le {C : Nat → Option Nat} : ∀ n, (∀ m, m < n → ∀ c, C m = some c → c ≤ 80) → (dsm C n).1 ≤ 80 * n ∧ (dsm C n).2 ≤ n
  | 0, _ => ⟨Nat.le_refl _, Nat.le_refl _⟩
  | n + 1, h => by
    have ih := dsm_le n (C := C) fun m hm => h m (by omega)
    have h1 := h n (by omega)
    unfold dsm
    split
    · omega
    · next c e => have := h1 c e; exact ⟨by show (dsm C n).1 + c ≤ _; omega, by show (dsm C n).2 + 1 ≤ _; omega⟩
def dsD (p : Nat × Nat) : UInt64 := if p.2 = 0 then 13830554455654793216 else fdv p.1 p.2
def cwm (D : HD) (f : Nat → Nat) (gv : Nat → List Nat) (i j : Nat) : Nat → Option Nat := fun m => cwo f (cel D f gv m i).1 (cel D f gv m j).1
theorem cwo_80 {f : Nat → Nat} {a b : List Nat} (ha : Wok a) (hb : Wok b) : ∀ c, cwo f a b = some c → c ≤ 80 := by
  intro c h
  unfold cwo at h
  split at h
  · exact absurd h (by simp)
  · rw [← Option.some.inj h]
    have := lc_le (f := f) a b
    have := ha.1
    have := hb.1
    omega
theorem cwm_le {D : HD} {f : Nat → Nat} {gv : Nat → List Nat} {op i j : Nat} {h : AH} (kn : KnA h f gv op D) (hi : i < D.1) (hj : j < D.1) (n : Nat) (hn : n ≤ 12) : (dsm (cwm D f gv i j) n).1 ≤ 80 * n ∧ (dsm (cwm D f gv i j) n).2 ≤ n := dsm_le n fun m hm c e => cwo_80 (kn.ok (by omega) hi).1 (kn.ok (by omega) hj).1 c e
theorem hI_m1 {o : Option Nat} (h : ∀ c, o = some c → c ≤ 80) : hI o = -1 ↔ o = none := by
  cases o with
  | none => exact ⟨fun _ => rfl, fun _ => rfl⟩
  | some c => exact ⟨fun e => absurd e (nI_m1 (by have := h c rfl; omega)), fun e => nomatch e⟩
theorem e_distanceOf {g : Gp} {i j : Nat} {h : AH} {Q : PQ} {f : Nat → Nat} {gv : Nat → List Nat} {op : Nat} {D : HD} (kn : KnA h f gv op D) (hi : i < D.1) (hj : j < D.1)
    (hq : ∀ h', Ku h h' → KnA h' f gv op D → Q (.inl (some (vD (dsD (dsm (cwm D f gv i j) 12))))) h') : Ev g mX9_distanceOf [vR 4, vI (nI i), vI (nI j)] h Q := by
  have hD1 := kn.1.b.ok.2.1
  refine nX9_distanceOf ?_
  refine Ex.wf (fun w => ?_)
  have lp : ∀ d m, m + d = 12 → ∀ (y : AV) (h2 : AH), Ku h h2 → KnA h2 f gv op D → Ex g mX9_distanceOf 8 [vR 4, vI (nI i), vI (nI j), vI (nI (dsm (cwm D f gv i j) m).1), vI (nI (dsm (cwm D f gv i j) m).2), vI (nI m), y] [] h2 (0, 0) Q := by
    intro d
    induction d with
    | zero =>
      intro m hm y h2 ku kn2
      have e : m = 12 := by omega
      subst e
      obtain ⟨le1, le2⟩ := cwm_le kn2 hi hj 12 (by decide)
      have z := hq h2 ku kn2
      unfold dsD at z
      refine rX9_distanceOf_8 ?_
      simp only [bX9_distanceOf_8, run, Nat.reduceAdd, lg, st1, st2, lkill, lset, fvv, sfv, kind3, cat1, retI, retA, List.length_cons, List.length_nil, true_and, and_true, or_true, true_or, qX9_distanceOf, show ((12 : Int32) ≤ nI 12) = True by decide, not_true_eq_false, not_false_eq_true, false_implies, true_and, and_true, tti]
      by_cases e0 : (dsm (cwm D f gv i j) 12).2 = 0
      · rw [if_pos e0] at z
        refine rX9_distanceOf_45 ?_
        simp only [bX9_distanceOf_45, run, Nat.reduceAdd, lg, st1, st2, lkill, lset, fvv, sfv, kind3, cat1, retI, retA, List.length_cons, List.length_nil, true_and, and_true, or_true, true_or, qX9_distanceOf, e0, show nI 0 = 0 from rfl, not_true_eq_false, not_false_eq_true, false_implies, true_and, and_true, tti]
        exact z
      · rw [if_neg e0] at z
        refine rX9_distanceOf_45 ?_
        simp only [bX9_distanceOf_45, run, Nat.reduceAdd, lg, st1, st2, lkill, lset, fvv, sfv, kind3, cat1, retI, retA, List.length_cons, List.length_nil, true_and, and_true, or_true, true_or, qX9_distanceOf, show nI (dsm (cwm D f gv i j) 12).2 = 0 ↔ False from ⟨fun q => e0 ((nI_eq (b := 0) (by omega) (by omega)).mp q), False.elim⟩, not_true_eq_false, not_false_eq_true, false_implies, true_and, and_true, tti]
        refine rX9_distanceOf_56 ?_
        simp only [bX9_distanceOf_56, run, Nat.reduceAdd, lg, st1, st2, lkill, lset, fvv, sfv, kind3, cat1, retI, retA, List.length_cons, List.length_nil, true_and, and_true, or_true, true_or, qX9_distanceOf]
        exact ⟨(fdv_ok (by omega) (by omega) e0).1, z⟩
    | succ d ih =>
      intro m hm y h2 ku kn2
      refine Ex.wf (fun w2 => ?_)
      have z := ih (m + 1) (by omega)
      unfold dsm at z
      have hm12 : m < 12 := by omega
      obtain ⟨le1, le2⟩ := cwm_le kn2 hi hj m (by omega)
      have c80 := cwo_80 (f := f) (kn2.ok hm12 hi).1 (kn2.ok hm12 hj).1
      refine rX9_distanceOf_8 ?_
      simp only [bX9_distanceOf_8, run, Nat.reduceAdd, lg, st1, st2, lkill, lset, fvv, sfv, kind3, cat1, retI, retA, List.length_cons, List.length_nil, true_and, and_true, or_true, true_or, qX9_distanceOf, show ((12 : Int32) ≤ nI m) ↔ False from ⟨nI_ge (b := 12) (by omega) (by omega), False.elim⟩, not_true_eq_false, not_false_eq_true, false_implies, true_and, and_true, tti]
      refine sX9_distanceOf_20 kn2.1.b.lgs.1 (e_leastCost (kn2.at1 hm12) hm12 hi hj fun h3 y3 fr3 => ?_)
      simp only [cont, Option.toList, List.cons_append, List.nil_append]
      have z3 := fun a => z a h3 (ku.tr (y3.u hm12)) ((y3.u hm12).knA w2 kn2 fr3)
      have eC : cwm D f gv i j m = cwo f (cel D f gv m i).1 (cel D f gv m j).1 := rfl
      cases e : cwo f (cel D f gv m i).1 (cel D f gv m j).1 with
      | none =>
        rw [eC, e] at z3
        refine rX9_distanceOf_23 ?_
        simp only [bX9_distanceOf_23, run, Nat.reduceAdd, lg, st1, st2, lkill, lset, fvv, sfv, kind3, cat1, retI, retA, List.length_cons, List.length_nil, true_and, and_true, or_true, true_or, qX9_distanceOf, show hI none = -1 from rfl, not_true_eq_false, not_false_eq_true, false_implies, true_and, and_true, tti]
        refine rX9_distanceOf_39 ?_
        simp only [bX9_distanceOf_39, run, Nat.reduceAdd, lg, st1, st2, lkill, lset, fvv, sfv, kind3, cat1, retI, retA, List.length_cons, List.length_nil, true_and, and_true, or_true, true_or, qX9_distanceOf, nI_1]
        exact z3 _
      | some c =>
        rw [eC, e] at z3
        have := c80 c e
        refine rX9_distanceOf_23 ?_
        simp only [bX9_distanceOf_23, run, Nat.reduceAdd, lg, st1, st2, lkill, lset, fvv, sfv, kind3, cat1, retI, retA, List.length_cons, List.length_nil, true_and, and_true, or_true, true_or, qX9_distanceOf, show hI (some c) = nI c from rfl, show nI c = -1 ↔ False from ⟨nI_m1 (by omega), False.elim⟩, nI_add, nI_1, not_true_eq_false, not_false_eq_true, false_implies, true_and, and_true, tti]
        exact z3 _
  refine rX9_distanceOf_0 ?_
  simp only [bX9_distanceOf_0, run, Nat.reduceAdd, lg, st1, st2, lkill, lset, fvv, sfv, kind3, cat1, retI, retA, List.length_cons, List.length_nil, true_and, and_true, or_true, true_or, qX9_distanceOf]
  exact lp 12 0 rfl _ h Ku.rf kn
theorem cv_g {x y : UInt64} : Op.cmpValue (FP.dcmp x y) .g < 0 ↔ FP.dcmp x y = some .lt := by
  generalize FP.dcmp x y = o
  cases o with
  | none => exact ⟨fun q => absurd q (by decide), fun q => nomatch q⟩
  | some o => cases o <;> decide
theorem cv_ge {o : Option Ordering} {k : CmpOp} (h : o = some .gt ∨ o = some .eq) : 0 ≤ Op.cmpValue o k := by
  rcases h with h | h <;> rw [h] <;> revert k <;> intro k <;> cases k <;> decide
theorem cv_l {o : Option Ordering} (h : o = some .gt ∨ o = some .eq) : ¬ Op.cmpValue o .l < 0 := by
  rcases h with h | h <;> rw [h] <;> decide
theorem cv_g0 {o : Option Ordering} : 0 ≤ Op.cmpValue o .g ↔ ¬ o = some .lt := by
  cases o with
  | none => exact ⟨fun _ q => Option.some_ne_none _ q.symm, fun _ => by decide⟩
  | some o => cases o <;> decide
theorem m1_lt : FP.dcmp 13830554455654793216 0 = some .lt := by decide +kernel
theorem dsD_0 {C : Nat → Option Nat} (h : (dsm C 12).1 ≤ 80 * 12 ∧ (dsm C 12).2 ≤ 12) : if (dsm C 12).2 = 0 then FP.dcmp (dsD (dsm C 12)) 0 = some .lt else FP.dcmp (dsD (dsm C 12)) 0 = some .gt ∨ FP.dcmp (dsD (dsm C 12)) 0 = some .eq := by
  unfold dsD
  split
  · exact m1_lt
  · next e => exact (fdv_ok (by omega) (by omega) e).2
/-- how far two languages are -/
def faD (p : Nat × Nat) : UInt64 := if p.2 = 0 then 0 else fdv p.1 p.2
theorem e_far {g : Gp} {a0 a1 : Int32} {h : AH} {Q : PQ} {f : Nat → Nat} {gv : Nat → List Nat} {op : Nat} {D : HD} (hf : FamR h f gv op D)
    (hq : ∀ i j, i < D.1 → j < D.1 → a0 = nI i → a1 = nI j → (dsm (cwm D f gv i j) 12).1 ≤ 80 * 12 ∧ (dsm (cwm D f gv i j) 12).2 ≤ 12 → ∀ h', Fc h h' → FamR h' f gv op D → Q (.inl (some (vD (faD (dsm (cwm D f gv i j) 12))))) h')
    (hx : (inb a0 D.1 && inb a1 D.1) = false → ∀ n, zN h ≤ n → Q (.inr 1) (bump h n)) : Ev g mX9_far [vR 4, vI a0, vI a1] h Q := by
  have hb := hf.b
  have hD1 := hb.ok.2.1
  refine nX9_far ?_
  refine Ex.wf (fun w => ?_)
  have bad1 : (inb a0 D.1 && inb a1 D.1) = false → Ex g mX9_far 20 [vR 4, vI a0, vI a1, vU, vU] [] h (0, 0) Q := fun e => by
    refine rX9_far_20 ?_
    simp only [bX9_far_20, run, Nat.reduceAdd, lg, st1, st2, lkill, lset, fvv, sfv, kind3, cat1, retI, retA, List.length_cons, List.length_nil, true_and, and_true, or_true, true_or, qX9_far]
    exact sX9_far_21 (by decide) (e_requireThere (fun q => absurd rfl q) fun _ n hn => hx e n hn)
  refine rX9_far_0 ?_
  simp only [bX9_far_0, run, Nat.reduceAdd, lg, st1, st2, lkill, lset, fvv, sfv, kind3, cat1, retI, retA, List.length_cons, List.length_nil, true_and, and_true, or_true, true_or, qX9_far]
  refine sX9_far_2 hb.lgs.1 (e_isLanguage hb ?_)
  simp only [cont, Option.toList, List.cons_append, List.nil_append]
  cases e1 : inb a0 D.1 with
  | false =>
    refine rX9_far_5 ?_
    simp only [bX9_far_5, run, Nat.reduceAdd, lg, st1, st2, lkill, lset, fvv, sfv, kind3, cat1, retI, retA, List.length_cons, List.length_nil, true_and, and_true, or_true, true_or, qX9_far, show bi false = 0 from rfl, not_true_eq_false, not_false_eq_true, false_implies, true_and, and_true, tti]
    exact bad1 (by rw [e1]; rfl)
  | true =>
    refine rX9_far_5 ?_
    simp only [bX9_far_5, run, Nat.reduceAdd, lg, st1, st2, lkill, lset, fvv, sfv, kind3, cat1, retI, retA, List.length_cons, List.length_nil, true_and, and_true, or_true, true_or, qX9_far, show ¬ bi true = 0 by decide, not_true_eq_false, not_false_eq_true, false_implies, true_and, and_true, tti]
    refine sX9_far_10 hb.lgs.1 (e_isLanguage hb ?_)
    simp only [cont, Option.toList, List.cons_append, List.nil_append]
    cases e2 : inb a1 D.1 with
    | false =>
      refine rX9_far_13 ?_
      simp only [bX9_far_13, run, Nat.reduceAdd, lg, st1, st2, lkill, lset, fvv, sfv, kind3, cat1, retI, retA, List.length_cons, List.length_nil, true_and, and_true, or_true, true_or, qX9_far, show bi false = 0 from rfl, not_true_eq_false, not_false_eq_true, false_implies, true_and, and_true, tti]
      exact bad1 (by rw [e1, e2]; rfl)
    | true =>
      refine rX9_far_13 ?_
      simp only [bX9_far_13, run, Nat.reduceAdd, lg, st1, st2, lkill, lset, fvv, sfv, kind3, cat1, retI, retA, List.length_cons, List.length_nil, true_and, and_true, or_true, true_or, qX9_far, show ¬ bi true = 0 by decide, not_true_eq_false, not_false_eq_true, false_implies, true_and, and_true, tti]
      refine sX9_far_21 (by decide) (e_requireThere (fun _ => ?_) fun q => absurd q (by decide))
      simp only [cont, Option.toList, List.cons_append, List.nil_append]
      obtain ⟨i, hi, rfl⟩ := inb_t (by omega) e1
      obtain ⟨j, hj, rfl⟩ := inb_t (by omega) e2
      refine rX9_far_24 ?_
      simp only [bX9_far_24, run, Nat.reduceAdd, lg, st1, st2, lkill, lset, fvv, sfv, kind3, cat1, retI, retA, List.length_cons, List.length_nil, true_and, and_true, or_true, true_or, qX9_far, hb.1.1.1, hb.1.1.2.2.2.2.1, not_true_eq_false, not_false_eq_true, false_implies, true_and, and_true, tti]
      refine sX9_far_28 hb.2.2.1.2.1 (e_frA w hf fun h2 fc kn => ?_)
      simp only [cont, Option.toList, List.cons_append, List.nil_append]
      refine rX9_far_31 ?_
      simp only [bX9_far_31, run, Nat.reduceAdd, lg, st1, st2, lkill, lset, fvv, sfv, kind3, cat1, retI, retA, List.length_cons, List.length_nil, true_and, and_true, or_true, true_or, qX9_far]
      have le := cwm_le kn hi hj 12 (by decide)
      refine sX9_far_34 kn.1.b.lgs.1 (e_distanceOf kn hi hj fun h3 y kn3 => ?_)
      simp only [cont, Option.toList, List.cons_append, List.nil_append]
      have z := hq i j hi hj rfl rfl le h3 (fc.tr y.fc) kn3.1
      have d0 := dsD_0 le
      unfold faD at z
      by_cases e0 : (dsm (cwm D f gv i j) 12).2 = 0
      · rw [if_pos e0] at z d0
        refine rX9_far_37 ?_
        simp only [bX9_far_37, run, Nat.reduceAdd, lg, st1, st2, lkill, lset, fvv, sfv, kind3, cat1, retI, retA, List.length_cons, List.length_nil, true_and, and_true, or_true, true_or, qX9_far, show FP.dconst0 = 0 from rfl, cv_g0, d0, not_true_eq_false, not_false_eq_true, false_implies, true_and, and_true, tti]
        exact z
      · rw [if_neg e0] at z d0
        refine rX9_far_37 ?_
        simp only [bX9_far_37, run, Nat.reduceAdd, lg, st1, st2, lkill, lset, fvv, sfv, kind3, cat1, retI, retA, List.length_cons, List.length_nil, true_and, and_true, or_true, true_or, qX9_far, show FP.dconst0 = 0 from rfl, show 0 ≤ Op.cmpValue (FP.dcmp (dsD (dsm (cwm D f gv i j) 12)) 0) .g ↔ True from ⟨fun _ => trivial, fun _ => cv_ge d0⟩, not_true_eq_false, not_false_eq_true, false_implies, true_and, and_true, tti]
        refine rX9_far_48 ?_
        simp only [bX9_far_48, run, Nat.reduceAdd, lg, st1, st2, lkill, lset, fvv, sfv, kind3, cat1, retI, retA, List.length_cons, List.length_nil, true_and, and_true, or_true, true_or, qX9_far]
        rw [show dsD (dsm (cwm D f gv i j) 12) = fdv (dsm (cwm D f gv i j) 12).1 (dsm (cwm D f gv i j) 12).2 from if_neg e0]
        exact z
