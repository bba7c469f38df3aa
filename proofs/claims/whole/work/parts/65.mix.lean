/-! ===== the checksum ===== -/
def mx (s v : Int64) : Int64 := s * 31 + v
def mxp (s : Int64) (w : List Nat) : Nat → Int64
  | 0 => mx s (nI w.length).toInt64
  | p + 1 => mx (mxp s w p) (nI (w.getD p 0)).toInt64
def mxs (s : Int64) (w : List Nat) : Int64 := mxp s w w.length
noncomputable def mxW (D : HD) (f : Nat → Nat) (gv : Nat → List Nat) (s : Int64) (l m : Nat) : Int64 :=
  mx (mxs (mx (mx (mxs s (cel D f gv m l).1) (bI (cel D f gv m l).2.1).toInt64) (nI (cel D f gv m l).2.2).toInt64) (rcl D f gv m l)) (if (cel D f gv m l).1 = (cel (noL D) f gv m l).1 then 0 else 1)
noncomputable def mxM (D : HD) (f : Nat → Nat) (gv : Nat → List Nat) (l : Nat) (s : Int64) : Nat → Int64
  | 0 => s
  | m + 1 => mxW D f gv (mxM D f gv l s m) l m
noncomputable def mxL (D : HD) (f : Nat → Nat) (gv : Nat → List Nat) (s : Int64) (l : Nat) : Int64 :=
  mxM D f gv l (mx (mx (mx (mx (mx (mx s (nI (D.2.2.1 l).length).toInt64) (nI (wlt D f gv l 12)).toInt64) (nI (alk (fun m => (cel D f gv m l).1) 12)).toInt64) (nI (sos D f gv l 12)).toInt64) (bI (nst (dsX D f gv l) l D.1).1).toInt64) (nI (rwl D f gv l 12)).toInt64) 12
noncomputable def mxLs (D : HD) (f : Nat → Nat) (gv : Nat → List Nat) (s : Int64) : Nat → Int64
  | 0 => s
  | l + 1 => mxL D f gv (mxLs D f gv s l) l
def mcm (C : Nat → Option Nat) (s : Int64) : Nat → Int64
  | 0 => s
  | m + 1 => mx (mcm C s m) (hI (C m)).toInt64
def mcg (D : HD) (f : Nat → Nat) (gv : Nat → List Nat) (i : Nat) (s : Int64) : Nat → Int64
  | 0 => s
  | k + 1 => mcm (cwm D f gv i (i + 1 + k)) (mcg D f gv i s k) 12
def mcs (D : HD) (f : Nat → Nat) (gv : Nat → List Nat) (s : Int64) : Nat → Int64
  | 0 => s
  | i + 1 => mcg D f gv i (mcs D f gv s i) (D.1 - 1 - i)
noncomputable def dgs (D : HD) (f : Nat → Nat) (gv : Nat → List Nat) : Int64 := mcs D f gv (mxLs D f gv (mx (mx 2677 (nI D.1).toInt64) (nI D.2.2.2.length).toInt64) D.1) D.1
theorem e_mixed {g : Gp} {s v : Int64} {h : AH} {Q : PQ} (hq : Q (.inl (some (vL (mx s v)))) h) : Ev g mX9_mixed [vL s, vL v] h Q := by
  refine nX9_mixed ?_
  refine rX9_mixed_0 ?_
  simp only [bX9_mixed_0, run, Nat.reduceAdd, lg, st1, st2, lkill, lset, fvv, sfv, kind3, cat1, retI, retA, List.length_cons, List.length_nil, true_and, and_true, or_true, true_or, qX9_mixed]
  exact hq
theorem e_mixSounds {g : Gp} {s : Int64} {w : List Nat} {h : AH} {Q : PQ} (hw : Wok w) (hq : Q (.inl (some (vL (mxs s w)))) h) : Ev g mX9_mixSounds [vL s, vL (eC w)] h Q := by
  have w10 := hw.1
  refine nX9_mixSounds ?_
  have lp : ∀ d p, p + d = w.length → Ex g mX9_mixSounds 14 [vL s, vU, vL (eC w), vU, vL (mxp s w p), vU, vI (nI p)] [] h (0, 0) Q := by
    intro d
    induction d with
    | zero =>
      intro p hp
      have e : p = w.length := by omega
      subst e
      refine rX9_mixSounds_14 ?_
      simp only [bX9_mixSounds_14, run, Nat.reduceAdd, lg, st1, st2, lkill, lset, fvv, sfv, kind3, cat1, retI, retA, List.length_cons, List.length_nil, true_and, and_true, or_true, true_or, qX9_mixSounds]
      refine sX9_mixSounds_17 (e_size hw ?_)
      simp only [cont, Option.toList, List.cons_append, List.nil_append]
      refine rX9_mixSounds_20 ?_
      simp only [bX9_mixSounds_20, run, Nat.reduceAdd, lg, st1, st2, lkill, lset, fvv, sfv, kind3, cat1, retI, retA, List.length_cons, List.length_nil, true_and, and_true, or_true, true_or, qX9_mixSounds, show nI w.length ≤ nI w.length ↔ True from ⟨fun _ => trivial, fun _ => nI_le (Nat.le_refl _) (by omega)⟩, not_true_eq_false, not_false_eq_true, false_implies, true_and, and_true, tti]
      refine rX9_mixSounds_43 ?_
      simp only [bX9_mixSounds_43, run, Nat.reduceAdd, lg, st1, st2, lkill, lset, fvv, sfv, kind3, cat1, retI, retA, List.length_cons, List.length_nil, true_and, and_true, or_true, true_or, qX9_mixSounds]
      exact hq
    | succ d ih =>
      intro p hp
      have nx := ih (p + 1) (by omega)
      rw [mxp] at nx
      refine rX9_mixSounds_14 ?_
      simp only [bX9_mixSounds_14, run, Nat.reduceAdd, lg, st1, st2, lkill, lset, fvv, sfv, kind3, cat1, retI, retA, List.length_cons, List.length_nil, true_and, and_true, or_true, true_or, qX9_mixSounds]
      refine sX9_mixSounds_17 (e_size hw ?_)
      simp only [cont, Option.toList, List.cons_append, List.nil_append]
      refine rX9_mixSounds_20 ?_
      simp only [bX9_mixSounds_20, run, Nat.reduceAdd, lg, st1, st2, lkill, lset, fvv, sfv, kind3, cat1, retI, retA, List.length_cons, List.length_nil, true_and, and_true, or_true, true_or, qX9_mixSounds, show nI w.length ≤ nI p ↔ False from ⟨nI_ge (by omega) (by omega), False.elim⟩, not_true_eq_false, not_false_eq_true, false_implies, true_and, and_true, tti]
      refine sX9_mixSounds_28 (e_at hw (by omega) ?_)
      simp only [cont, Option.toList, List.cons_append, List.nil_append]
      refine rX9_mixSounds_31 ?_
      simp only [bX9_mixSounds_31, run, Nat.reduceAdd, lg, st1, st2, lkill, lset, fvv, sfv, kind3, cat1, retI, retA, List.length_cons, List.length_nil, true_and, and_true, or_true, true_or, qX9_mixSounds]
      refine sX9_mixSounds_32 (e_mixed ?_)
      simp only [cont, Option.toList, List.cons_append, List.nil_append]
      refine rX9_mixSounds_35 ?_
      simp only [bX9_mixSounds_35, run, Nat.reduceAdd, lg, st1, st2, lkill, lset, fvv, sfv, kind3, cat1, retI, retA, List.length_cons, List.length_nil, true_and, and_true, or_true, true_or, qX9_mixSounds, nI_1]
      exact nx
  refine rX9_mixSounds_0 ?_
  simp only [bX9_mixSounds_0, run, Nat.reduceAdd, lg, st1, st2, lkill, lset, fvv, sfv, kind3, cat1, retI, retA, List.length_cons, List.length_nil, true_and, and_true, or_true, true_or, qX9_mixSounds]
  refine sX9_mixSounds_2 (e_size hw ?_)
  simp only [cont, Option.toList, List.cons_append, List.nil_append]
  refine rX9_mixSounds_5 ?_
  simp only [bX9_mixSounds_5, run, Nat.reduceAdd, lg, st1, st2, lkill, lset, fvv, sfv, kind3, cat1, retI, retA, List.length_cons, List.length_nil, true_and, and_true, or_true, true_or, qX9_mixSounds]
  refine sX9_mixSounds_6 (e_mixed ?_)
  simp only [cont, Option.toList, List.cons_append, List.nil_append]
  refine rX9_mixSounds_9 ?_
  simp only [bX9_mixSounds_9, run, Nat.reduceAdd, lg, st1, st2, lkill, lset, fvv, sfv, kind3, cat1, retI, retA, List.length_cons, List.length_nil, true_and, and_true, or_true, true_or, qX9_mixSounds]
  exact lp w.length 0 (Nat.zero_add _)
theorem e_mixWord {g : Gp} {s : Int64} {l m : Nat} {h : AH} {Q : PQ} {f : Nat → Nat} {gv : Nat → List Nat} {op : Nat} {D : HD} (kn : KnA h f gv op D) (ku : KnU h f gv D) (hl : l < D.1) (hm : m < 12)
    (hq : ∀ h', Kv h h' → Q (.inl (some (vL (mxW D f gv s l m)))) h') : Ev g mX9_mixWord [vR 4, vL s, vI (nI l), vI (nI m)] h Q := by
  have hb := kn.1.b
  have hD1 := hb.ok.2.1
  have lx := hb.2.2.1.2
  have cm := kn.2 m hm l hl
  have ok := kn.ok hm hl
  have gm := (hb.2.1.2.2 m hm).1
  refine nX9_mixWord ?_
  refine Ex.wf (fun w => ?_)
  have f4 := hb.1.1.2.2.2.2.1
  refine rX9_mixWord_0 ?_
  simp only [bX9_mixWord_0, run, Nat.reduceAdd, lg, st1, st2, lkill, lset, fvv, sfv, kind3, cat1, retI, retA, List.length_cons, List.length_nil, true_and, and_true, or_true, true_or, qX9_mixWord, hb.1.1.1, f4, not_true_eq_false, not_false_eq_true, false_implies, true_and, and_true, tti]
  refine sX9_mixWord_8 lx.1 (e_wordOf lx (by omega) hm cm ?_)
  simp only [cont, Option.toList, List.cons_append, List.nil_append]
  refine sX9_mixWord_11 (e_mixSounds ok.1 ?_)
  simp only [cont, Option.toList, List.cons_append, List.nil_append]
  refine rX9_mixWord_14 ?_
  simp only [bX9_mixWord_14, run, Nat.reduceAdd, lg, st1, st2, lkill, lset, fvv, sfv, kind3, cat1, retI, retA, List.length_cons, List.length_nil, true_and, and_true, or_true, true_or, qX9_mixWord, hb.1.1.1, f4, not_true_eq_false, not_false_eq_true, false_implies, true_and, and_true, tti]
  refine sX9_mixWord_25 lx.1 (e_originOf lx (by omega) hm cm ?_)
  simp only [cont, Option.toList, List.cons_append, List.nil_append]
  refine rX9_mixWord_28 ?_
  simp only [bX9_mixWord_28, run, Nat.reduceAdd, lg, st1, st2, lkill, lset, fvv, sfv, kind3, cat1, retI, retA, List.length_cons, List.length_nil, true_and, and_true, or_true, true_or, qX9_mixWord]
  refine sX9_mixWord_29 (e_mixed ?_)
  simp only [cont, Option.toList, List.cons_append, List.nil_append]
  refine rX9_mixWord_32 ?_
  simp only [bX9_mixWord_32, run, Nat.reduceAdd, lg, st1, st2, lkill, lset, fvv, sfv, kind3, cat1, retI, retA, List.length_cons, List.length_nil, true_and, and_true, or_true, true_or, qX9_mixWord, hb.1.1.1, f4, not_true_eq_false, not_false_eq_true, false_implies, true_and, and_true, tti]
  refine sX9_mixWord_43 lx.1 (e_changersOf lx (by omega) hm cm ?_)
  simp only [cont, Option.toList, List.cons_append, List.nil_append]
  refine rX9_mixWord_46 ?_
  simp only [bX9_mixWord_46, run, Nat.reduceAdd, lg, st1, st2, lkill, lset, fvv, sfv, kind3, cat1, retI, retA, List.length_cons, List.length_nil, true_and, and_true, or_true, true_or, qX9_mixWord]
  refine sX9_mixWord_47 (e_mixed ?_)
  simp only [cont, Option.toList, List.cons_append, List.nil_append]
  refine rX9_mixWord_50 ?_
  simp only [bX9_mixWord_50, run, Nat.reduceAdd, lg, st1, st2, lkill, lset, fvv, sfv, kind3, cat1, retI, retA, List.length_cons, List.length_nil, true_and, and_true, or_true, true_or, qX9_mixWord]
  refine sX9_mixWord_58 hb.lgs.1 (e_recall (kn.at1 hm) hm hl fun h2 kv => ?_)
  simp only [cont, Option.toList, List.cons_append, List.nil_append]
  refine sX9_mixWord_61 (e_mixSounds (rcl_ok fun d hd => (kn.ok hm hd).1) ?_)
  simp only [cont, Option.toList, List.cons_append, List.nil_append]
  have kn2 := kv.knA w kn
  have ku2 := kv.u.knU w kn.1 ku
  have hb2 := kn2.1.b
  have z := hq h2 kv
  unfold mxW at z
  refine rX9_mixWord_64 ?_
  simp only [bX9_mixWord_64, run, Nat.reduceAdd, lg, st1, st2, lkill, lset, fvv, sfv, kind3, cat1, retI, retA, List.length_cons, List.length_nil, true_and, and_true, or_true, true_or, qX9_mixWord, hb2.1.1.1, hb2.1.1.2.2.2.2.2.1, not_true_eq_false, not_false_eq_true, false_implies, true_and, and_true, tti]
  refine sX9_mixWord_76 hb2.lgs.1 (e_differs hb2 hb2.2.2.2.1.2 (by omega) hm (kn2.2 m hm l hl) (ku2 m hm l hl) ok.1 (cel_ok (noL_ok hb.ok) gm hl).1 ?_)
  simp only [cont, Option.toList, List.cons_append, List.nil_append]
  by_cases same : (cel D f gv m l).1 = (cel (noL D) f gv m l).1
  · rw [if_pos same] at z
    refine rX9_mixWord_79 ?_
    simp only [bX9_mixWord_79, run, Nat.reduceAdd, lg, st1, st2, lkill, lset, fvv, sfv, kind3, cat1, retI, retA, List.length_cons, List.length_nil, true_and, and_true, or_true, true_or, qX9_mixWord, if_pos same, not_true_eq_false, not_false_eq_true, false_implies, true_and, and_true, tti]
    refine rX9_mixWord_86 ?_
    simp only [bX9_mixWord_86, run, Nat.reduceAdd, lg, st1, st2, lkill, lset, fvv, sfv, kind3, cat1, retI, retA, List.length_cons, List.length_nil, true_and, and_true, or_true, true_or, qX9_mixWord]
    refine sX9_mixWord_87 (e_mixed ?_)
    simp only [cont, Option.toList, List.cons_append, List.nil_append]
    refine rX9_mixWord_90 ?_
    simp only [bX9_mixWord_90, run, Nat.reduceAdd, lg, st1, st2, lkill, lset, fvv, sfv, kind3, cat1, retI, retA, List.length_cons, List.length_nil, true_and, and_true, or_true, true_or, qX9_mixWord]
    exact z
  · rw [if_neg same] at z
    refine rX9_mixWord_79 ?_
    simp only [bX9_mixWord_79, run, Nat.reduceAdd, lg, st1, st2, lkill, lset, fvv, sfv, kind3, cat1, retI, retA, List.length_cons, List.length_nil, true_and, and_true, or_true, true_or, qX9_mixWord, if_neg same, show ¬ (1 : Int32) = 0 by decide, not_true_eq_false, not_false_eq_true, false_implies, true_and, and_true, tti]
    refine sX9_mixWord_87 (e_mixed ?_)
    simp only [cont, Option.toList, List.cons_append, List.nil_append]
    refine rX9_mixWord_90 ?_
    simp only [bX9_mixWord_90, run, Nat.reduceAdd, lg, st1, st2, lkill, lset, fvv, sfv, kind3, cat1, retI, retA, List.length_cons, List.length_nil, true_and, and_true, or_true, true_or, qX9_mixWord]
    exact z
