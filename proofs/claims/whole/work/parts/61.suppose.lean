/-! ===== what would be ===== -/
/-- what a supposition changes -/
def Ks (h h' : AH) : Prop := Kp (fun a => 43 ≤ a ∧ a ≤ 47) h h' ∧ LxS h' 43 44
theorem Ks.tr {h1 h2 h3 : AH} (x : Ks h1 h2) (y : Ks h2 h3) : Ks h1 h3 := ⟨x.1.tr y.1, y.2⟩
theorem Kn.ks {h h' : AH} (w : Wf h) (lx : LxS h 43 44) (k : Kn h h') : Ks h h' := ⟨k.mono fun _ _ q => q.elim, (lx.kp w k fun q => q).1⟩
theorem Ks.fc {h h' : AH} (y : Ks h h') : Fc h h' := y.1.fc fun a q => by omega
theorem FamB.ks {h h' : AH} {f : Nat → Nat} {gv : Nat → List Nat} {op : Nat} {D : HD} (w : Wf h) (k : Ks h h') (x : FamB h f gv op D) : FamB h' f gv op D := by
  obtain ⟨k, lx'⟩ := k
  have kh : Kh h h' := k.mono fun a _ q => by
    by_cases e : a = 43
    · rw [e, x.2.2.2.2.1.1]; unfold hk; decide
    · exact x.nhk (by unfold dat; omega)
  have nS : ∀ a, ¬ (43 ≤ a ∧ a ≤ 47) → ¬ (43 ≤ a ∧ a ≤ 47) := fun a q => q
  have big := x.big w
  obtain ⟨⟨⟨c1, c2⟩, a1, a1', a1'', a1s⟩, ⟨a2, a2'⟩, ⟨a3, a4⟩, ⟨a5, a6⟩, a7, a8, a9, a10⟩ := x
  have sep : Sep h' D.1 := by
    obtain ⟨-, t1, t2⟩ := a3
    rw [c2.2.2.2.2.2.2.2.2.2.1] at t1
    rw [c2.2.2.2.2.2.2.2.2.2.2.1] at t2
    exact a1s.kh w kh t1 t2
  have hr : ∀ a, 48 ≤ a → a ≤ 85 → zR h' a = zR h a := fun a q1 q2 => by rw [(k.2.2 a (by omega) (by omega)).2.2.2]
  have s4 := k.2.2 4 (w.lt c1 (by decide)) (by decide)
  have s29 := (kh.sm w a3.1 (Or.inr (Or.inr (Or.inl rfl)))).2
  have s37 := (kh.sm w a5.1 (Or.inr (Or.inr (Or.inl rfl)))).2
  have l1 := a4.kp w k (by decide)
  have l2 := a6.kp w k (by decide)
  refine ⟨⟨⟨k.kd w c1 (by decide), ?_⟩, by rw [s4.1]; exact a1, a1', a1'', sep⟩, ⟨a2.kp w k fun a q1 q2 => by omega, a2'.kp w k (by decide)⟩, ⟨a3.kh w kh, l1.1⟩, ⟨a5.kh w kh, l2.1⟩, lx', ?_, ?_, ?_⟩
  · rw [s4.2.2.2, s29.2.2.2, s37.2.2.2, l1.2, l2.2]
    exact c2
  · obtain ⟨x1, x2, x3, x4, x5, x6, x7, x8, x9, x10, x11, x12, x13⟩ := a8
    refine ⟨k.kd w x1 (by decide), ?_, ?_, ?_, ?_, ?_, ?_, k.kd w x8 (by decide), k.kd w x9 (by decide), k.kd w x10 (by decide), k.kd w x11 (by decide), k.kd w x12 (by decide), fun i hi => ⟨by rw [hr 51 (by omega) (by omega)]; exact (x13 i hi).1, k.kd w (x13 i hi).2 (by decide)⟩⟩
    all_goals (rw [hr 48 (by omega) (by omega)]; assumption)
  · obtain ⟨v1, v2⟩ := a9
    refine ⟨k.kd w v1 (by decide), fun i hi => ?_⟩
    obtain ⟨y1, y2, y3, y4⟩ := v2 i hi
    exact ⟨by rw [hr 65 (by omega) (by omega)]; exact y1, k.kd w y2 (by decide), by rw [hr _ (by omega) (by omega)]; exact y3, k.kd w y4 (by decide)⟩
  · have s86 := k.2.2 86 (w.lt a10.1 (by decide)) (by omega)
    exact ⟨k.kd w a10.1 (by decide), fun m hm => ⟨by rw [s86.2.2.2]; exact (a10.2 m hm).1, k.kd w (a10.2 m hm).2 (by decide)⟩⟩
theorem Ks.cr {k b x : Nat} {h h' : AH} {c : Cell3} (w : Wf h) (lx : LxS h x b) (y : Ks h h') (hb : b + 3 < 43) (hc : CR h b k c) : CR h' b k c := by
  obtain ⟨-, -, -, -, -, -, -, d1, d2, d3, -⟩ := lx
  have s1 := y.1.2.2 b (w.lt d1 (by decide)) (by omega)
  have s2 := y.1.2.2 (b + 1) (w.lt d2 (by decide)) (by omega)
  have s3 := y.1.2.2 (b + 2) (w.lt d3 (by decide)) (by omega)
  exact ⟨by rw [s1.2.1]; exact hc.1, by rw [s2.1]; exact hc.2.1, by rw [s3.1]; exact hc.2.2⟩
theorem Ks.lx {b x : Nat} {h h' : AH} {D : HD} {f : Nat → Nat} {gv : Nat → List Nat} (w : Wf h) (lx : LxS h x b) (y : Ks h h') (hb : b + 3 < 43) (lx' : LxS h' x b) (l : LxR h x b D f gv) : LxR h' x b D f gv := by
  refine ⟨lx', fun k hk => ?_⟩
  have s := y.1.2.2 (b + 3) (w.lt lx.2.2.2.2.2.2.2.2.2.2.1 (by decide)) (by omega)
  rw [s.1]
  exact (l.2 k hk).imp id fun q => ⟨q.1, fun l hl => Ks.cr w lx y hb (q.2 l hl)⟩
theorem Ks.fam {h h' : AH} {f : Nat → Nat} {gv : Nat → List Nat} {op : Nat} {D : HD} (w : Wf h) (hf : FamR h f gv op D) (y : Ks h h') : FamR h' f gv op D := by
  have hb := hf.b
  have fb := hb.ks w y
  obtain ⟨-, -, ⟨-, l1⟩, ⟨-, l2⟩, -, -, -, -, kc0⟩ := hf
  have b10 := hb.2.2.2.2.2.2.2
  refine fb.r (Ks.lx w hb.2.2.1.2 y (by decide) fb.2.2.1.2 l1) (Ks.lx w hb.2.2.2.1.2 y (by decide) fb.2.2.2.1.2 l2) fun k hk i j q1 q2 => ?_
  rw [(y.1.2.2 (87 + k) (w.lt (b10.2 k hk).2 (by decide)) (by omega)).1]
  exact kc0 k hk i j q1 q2
theorem Ks.knA {h h' : AH} {f : Nat → Nat} {gv : Nat → List Nat} {op : Nat} {D : HD} (w : Wf h) (kn : KnA h f gv op D) (y : Ks h h') : KnA h' f gv op D := ⟨y.fam w kn.1, fun m hm l hl => y.cr w kn.1.b.2.2.1.2 (by decide) (kn.2 m hm l hl)⟩
theorem Ks.kn1 {h h' : AH} {f : Nat → Nat} {gv : Nat → List Nat} {op m : Nat} {D : HD} (w : Wf h) (kn : Kn1 h f gv op D m) (y : Ks h h') : Kn1 h' f gv op D m := ⟨y.fam w kn.1, fun l hl => y.cr w kn.1.b.2.2.1.2 (by decide) (kn.2 l hl)⟩
theorem e_differs {g : Gp} {x b l m : Nat} {c d : Cell3} {h : AH} {Q : PQ} {f : Nat → Nat} {gv : Nat → List Nat} {op : Nat} {D : HD} (hb : FamB h f gv op D) (lx : LxS h x b) (hl : l < 10) (hm : m < 12) (hc : CR h 32 (l * 12 + m) c) (hd : CR h b (l * 12 + m) d) (wc : Wok c.1) (wd : Wok d.1)
    (hq : Q (.inl (some (vI (if c.1 = d.1 then 0 else 1)))) h) : Ev g mX9_differs [vR 4, vR x, vI (nI l), vI (nI m)] h Q := by
  have lx1 := hb.2.2.1.2
  have key := eC_inj wc wd
  refine nX9_differs ?_
  refine rX9_differs_0 ?_
  simp only [bX9_differs_0, run, Nat.reduceAdd, lg, st1, st2, lkill, lset, fvv, sfv, kind3, cat1, retI, retA, List.length_cons, List.length_nil, true_and, and_true, or_true, true_or, qX9_differs, hb.1.1.1, hb.1.1.2.2.2.2.1, not_true_eq_false, not_false_eq_true, false_implies, true_and, and_true, tti]
  refine sX9_differs_6 lx1.1 (e_wordOf lx1 hl hm hc ?_)
  simp only [cont, Option.toList, List.cons_append, List.nil_append]
  refine rX9_differs_9 ?_
  simp only [bX9_differs_9, run, Nat.reduceAdd, lg, st1, st2, lkill, lset, fvv, sfv, kind3, cat1, retI, retA, List.length_cons, List.length_nil, true_and, and_true, or_true, true_or, qX9_differs]
  refine sX9_differs_12 lx.1 (e_wordOf lx hl hm hd ?_)
  simp only [cont, Option.toList, List.cons_append, List.nil_append]
  by_cases same : c.1 = d.1
  · have e0 : lg_cmp (eC c.1) (eC d.1) = 0 := (lg_cmp_eq _ _).mpr (key.mpr same)
    rw [if_pos same] at hq
    refine rX9_differs_15 ?_
    simp only [bX9_differs_15, run, Nat.reduceAdd, lg, st1, st2, lkill, lset, fvv, sfv, kind3, cat1, retI, retA, List.length_cons, List.length_nil, true_and, and_true, or_true, true_or, qX9_differs, e0, not_true_eq_false, not_false_eq_true, false_implies, true_and, and_true, tti]
    refine rX9_differs_23 ?_
    simp only [bX9_differs_23, run, Nat.reduceAdd, lg, st1, st2, lkill, lset, fvv, sfv, kind3, cat1, retI, retA, List.length_cons, List.length_nil, true_and, and_true, or_true, true_or, qX9_differs]
    exact hq
  · have e0 : lg_cmp (eC c.1) (eC d.1) = 0 ↔ False := ⟨fun q => same (key.mp ((lg_cmp_eq _ _).mp q)), False.elim⟩
    rw [if_neg same] at hq
    refine rX9_differs_15 ?_
    simp only [bX9_differs_15, run, Nat.reduceAdd, lg, st1, st2, lkill, lset, fvv, sfv, kind3, cat1, retI, retA, List.length_cons, List.length_nil, true_and, and_true, or_true, true_or, qX9_differs, e0, not_true_eq_false, not_false_eq_true, false_implies, true_and, and_true, tti]
    exact hq
/-- how many differ -/
def cdf (A B : Nat → List Nat) : Nat → Nat
  | 0 => 0
  | m + 1 => if A m = B m then cdf A B m else cdf A B m + 1
theorem cdf_le {A B : Nat → List Nat} : ∀ n, cdf A B n ≤ n
  | 0 => Nat.le_refl _
  | n + 1 => by
    have := cdf_le (A := A) (B := B) n
    unfold cdf
    split <;> omega
/-- a supposed history whose words are all known -/
def SpA (h : AH) (f : Nat → Nat) (gv : Nat → List Nat) (D' : HD) : Prop := ∀ m, m < 12 → ∀ l, l < D'.1 → CR h 44 (l * 12 + m) (cel D' f gv m l)
theorem e_countDifferent {g : Gp} {l : Nat} {h : AH} {Q : PQ} {f : Nat → Nat} {gv : Nat → List Nat} {op : Nat} {D D' : HD} (kn : KnA h f gv op D) (sp : SpA h f gv D') (hD' : hdOk D') (e1 : D'.1 = D.1) (hl : l < D.1)
    (hq : Q (.inl (some (vI (nI (cdf (fun m => (cel D f gv m l).1) (fun m => (cel D' f gv m l).1) 12))))) h) : Ev g mX9_countDifferent [vR 4, vI (nI l)] h Q := by
  have hb := kn.1.b
  have hD1 := hb.ok.2.1
  have lx := hb.2.2.2.2.1
  refine nX9_countDifferent ?_
  have lp : ∀ d m, m + d = 12 → Ex g mX9_countDifferent 4 [vR 4, vI (nI l), vI (nI (cdf (fun m => (cel D f gv m l).1) (fun m => (cel D' f gv m l).1) m)), vI (nI m)] [] h (0, 0) Q := by
    intro d
    induction d with
    | zero =>
      intro m hm
      have e : m = 12 := by omega
      subst e
      refine rX9_countDifferent_4 ?_
      simp only [bX9_countDifferent_4, run, Nat.reduceAdd, lg, st1, st2, lkill, lset, fvv, sfv, kind3, cat1, retI, retA, List.length_cons, List.length_nil, true_and, and_true, or_true, true_or, qX9_countDifferent, show ((12 : Int32) ≤ nI 12) = True by decide, not_true_eq_false, not_false_eq_true, false_implies, true_and, and_true, tti]
      refine rX9_countDifferent_32 ?_
      simp only [bX9_countDifferent_32, run, Nat.reduceAdd, lg, st1, st2, lkill, lset, fvv, sfv, kind3, cat1, retI, retA, List.length_cons, List.length_nil, true_and, and_true, or_true, true_or, qX9_countDifferent]
      exact hq
    | succ d ih =>
      intro m hm
      have z := ih (m + 1) (by omega)
      rw [cdf] at z
      have hm12 : m < 12 := by omega
      have gm := (hb.2.1.2.2 m hm12).1
      refine rX9_countDifferent_4 ?_
      simp only [bX9_countDifferent_4, run, Nat.reduceAdd, lg, st1, st2, lkill, lset, fvv, sfv, kind3, cat1, retI, retA, List.length_cons, List.length_nil, true_and, and_true, or_true, true_or, qX9_countDifferent, show ((12 : Int32) ≤ nI m) ↔ False from ⟨nI_ge (b := 12) (by omega) (by omega), False.elim⟩, hb.1.1.1, hb.1.1.2.2.2.2.2.2.1, not_true_eq_false, not_false_eq_true, false_implies, true_and, and_true, tti]
      refine sX9_countDifferent_17 hb.lgs.1 (e_differs hb lx (by omega) hm12 (kn.2 m hm12 l hl) (sp m hm12 l (by omega)) (kn.ok hm12 hl).1 (cel_ok hD' gm (by omega)).1 ?_)
      simp only [cont, Option.toList, List.cons_append, List.nil_append]
      by_cases hw : (cel D f gv m l).1 = (cel D' f gv m l).1
      · rw [if_pos hw] at z
        refine rX9_countDifferent_20 ?_
        simp only [bX9_countDifferent_20, run, Nat.reduceAdd, lg, st1, st2, lkill, lset, fvv, sfv, kind3, cat1, retI, retA, List.length_cons, List.length_nil, true_and, and_true, or_true, true_or, qX9_countDifferent, if_pos hw, not_true_eq_false, not_false_eq_true, false_implies, true_and, and_true, tti]
        refine rX9_countDifferent_26 ?_
        simp only [bX9_countDifferent_26, run, Nat.reduceAdd, lg, st1, st2, lkill, lset, fvv, sfv, kind3, cat1, retI, retA, List.length_cons, List.length_nil, true_and, and_true, or_true, true_or, qX9_countDifferent, nI_1]
        exact z
      · rw [if_neg hw] at z
        refine rX9_countDifferent_20 ?_
        simp only [bX9_countDifferent_20, run, Nat.reduceAdd, lg, st1, st2, lkill, lset, fvv, sfv, kind3, cat1, retI, retA, List.length_cons, List.length_nil, true_and, and_true, or_true, true_or, qX9_countDifferent, if_neg hw, show ¬ (1 : Int32) = 0 by decide, nI_1, not_true_eq_false, not_false_eq_true, false_implies, true_and, and_true, tti]
        exact z
  refine rX9_countDifferent_0 ?_
  simp only [bX9_countDifferent_0, run, Nat.reduceAdd, lg, st1, st2, lkill, lset, fvv, sfv, kind3, cat1, retI, retA, List.length_cons, List.length_nil, true_and, and_true, or_true, true_or, qX9_countDifferent]
  exact lp 12 0 rfl
theorem e_suppose {g : Gp} {l c : Nat} {ws : List Lw} {h : AH} {Q : PQ} {f : Nat → Nat} {gv : Nat → List Nat} {op : Nat} {D : HD} (hf : FamR h f gv op D) (hl : l < D.1) (hc : LgR h c (pc D.2.1 l) ws)
    (hq : ∀ h', Ks h h' → HsR h' (zR h' 43 0) (setW D l ws) → (∀ m, m < 12 → zI h' 47 m = 0) → Q (.inl none) h') : Ev g mX9_suppose [vR 4, vI (nI l), vR c] h Q := by
  have hb := hf.b
  have lx := hb.2.2.2.2.1
  obtain ⟨a3, -⟩ := hb.2.2.1
  refine nX9_suppose ?_
  refine Ex.wf (fun w => ?_)
  refine rX9_suppose_0 ?_
  simp only [bX9_suppose_0, run, Nat.reduceAdd, lg, st1, st2, lkill, lset, fvv, sfv, kind3, cat1, retI, retA, List.length_cons, List.length_nil, true_and, and_true, or_true, true_or, qX9_suppose, hb.1.1.1, hb.1.1.2.2.2.2.2.2.1, hb.1.1.2.2.2.1, not_true_eq_false, not_false_eq_true, false_implies, true_and, and_true, tti]
  refine sX9_suppose_10 (by decide) a3.1 (e_replacing a3 hb.ok hl hc fun h1 c1 k1 hs1 => ?_)
  simp only [cont, Option.toList, List.cons_append, List.nil_append]
  refine Ex.wf (fun w1 => ?_)
  have ks1 := Kn.ks w lx k1
  have lx1 := ks1.2
  refine sX9_suppose_13 lx1.1 (e_tellOf lx1 hs1.1 fun h2 k2 lx2 r2 z2 => ?_)
  simp only [cont, Option.toList, List.cons_append, List.nil_append]
  refine rX9_suppose_16 ?_
  simp only [bX9_suppose_16, run, Nat.reduceAdd, lg, st1, st2, lkill, lset, fvv, sfv, kind3, cat1, retI, retA, List.length_cons, List.length_nil, true_and, and_true, or_true, true_or, qX9_suppose]
  have ks2 : Ks h1 h2 := ⟨k2.mono fun a _ q => by omega, lx2⟩
  have kh2 : Kh h1 h2 := k2.mono fun a _ q => by
    rcases q with q | q
    · rw [q, lx1.1]; unfold hk; decide
    · rw [q, lx1.2.2.2.2.2.2.2.2.2.2.1]; unfold hk; decide
  exact hq h2 (ks1.tr ks2) (by rw [r2]; exact hs1.kh w1 kh2) z2
theorem e_freshSp {g : Gp} {h : AH} {Q : PQ} {f : Nat → Nat} {gv : Nat → List Nat} {op : Nat} {D D' : HD} (hf : FamR h f gv op D) (hs : HsR h (zR h 43 0) D') (hD' : hdOk D') (z : ∀ m, m < 12 → zI h 47 m = 0)
    (hq : ∀ h', Ks h h' → SpA h' f gv D' → Q (.inl none) h') : Ev g mX4_freshenAll [vR 43] h Q := by
  obtain ⟨-, ⟨sn, gr⟩, -, -, lx, -⟩ := id hf
  refine e_freshenAll (x := 43) (b := 44) (D := D') ⟨lx, fun m hm => Or.inl (z m hm)⟩ hs hD' sn gr fun h' kp lx' f1 => ?_
  refine hq h' ⟨kp.mono fun a _ q => by omega, lx'.1⟩ fun m hm l hl => ?_
  exact ((lx'.2 m hm).resolve_left (by rw [f1 m hm]; decide)).2 l hl
