/-! ===== the questions ===== -/
theorem FamR.fr1 {h h' : AH} {f : Nat → Nat} {gv : Nat → List Nat} {op : Nat} {D : HD} (w : Wf h) (hf : FamR h f gv op D) (k : Kp (fun a => 32 ≤ a ∧ a ≤ 35) h h') (lx : LxR h' 31 32 D f gv) : FamR h' f gv op D := by
  have hb := hf.b
  have fb := hb.kp w k (fun a q => Or.inl q) fun a q1 q2 => by
    have := hb.big w
    rw [(k.2.2 a (by omega) (by omega)).2.2.2]
  obtain ⟨-, -, -, ⟨-, -, l2⟩, -, -, -, -, kc⟩ := hf
  have b6 := hb.2.2.2.1.2
  have b10 := hb.2.2.2.2.2.2.2
  obtain ⟨-, -, -, -, -, -, -, d1, d2, d3, d4, -⟩ := b6
  have s39 := k.2.2 39 (w.lt d1 (by decide)) (by decide)
  have s40 := k.2.2 40 (w.lt d2 (by decide)) (by decide)
  have s41 := k.2.2 41 (w.lt d3 (by decide)) (by decide)
  have s42 := k.2.2 42 (w.lt d4 (by decide)) (by decide)
  refine fb.r lx ⟨fb.2.2.2.1.2, fun m hm => ?_⟩ fun m hm i j q1 q2 => ?_
  · rw [show 39 + 3 = 42 from rfl, s42.1]
    refine (l2 m hm).imp id fun q => ⟨q.1, fun l hl => ?_⟩
    have := q.2 l hl
    exact ⟨by rw [s39.2.1]; exact this.1, by rw [show 39 + 1 = 40 from rfl, s40.1]; exact this.2.1, by rw [show 39 + 2 = 41 from rfl, s41.1]; exact this.2.2⟩
  · rw [(k.2.2 (87 + m) (w.lt (b10.2 m hm).2 (by decide)) (by omega)).1]
    exact kc m hm i j q1 q2
/-- a family whose actual words for a meaning are known -/
def Kn1 (h : AH) (f : Nat → Nat) (gv : Nat → List Nat) (op : Nat) (D : HD) (m : Nat) : Prop := FamR h f gv op D ∧ ∀ l, l < D.1 → CR h 32 (l * 12 + m) (cel D f gv m l)
theorem FamR.at1 {h : AH} {f : Nat → Nat} {gv : Nat → List Nat} {op m : Nat} {D : HD} (hf : FamR h f gv op D) (hm : m < 12) (h1 : zI h 35 m = 1) : Kn1 h f gv op D m := by
  refine ⟨hf, fun l hl => ?_⟩
  rcases hf.2.2.1.2.2 m hm with q | q
  · rw [show 32 + 3 = 35 from rfl, h1] at q
    exact absurd q (by decide)
  · exact q.2 l hl
theorem e_fr1 {g : Gp} {m : Nat} {h : AH} {Q : PQ} {f : Nat → Nat} {gv : Nat → List Nat} {op : Nat} {D : HD} (w : Wf h) (hf : FamR h f gv op D) (hm : m < 12)
    (hq : ∀ h', Fc h h' → Kn1 h' f gv op D m → Q (.inl none) h') : Ev g mX4_freshen [vR 31, vI (nI m)] h Q := by
  obtain ⟨⟨⟨c1, c2, c3, c4, c5, c6, c7, c8, c9, c10, c11, c12, c13, c14, c15, c16⟩, -⟩, ⟨sn, gr⟩, ⟨hs, lx⟩, -⟩ := id hf
  refine e_freshen lx (by rw [c15]; exact hs) hf.b.ok sn gr hm fun h' kp lx' f1 _ => ?_
  exact hq h' (kp.fc fun a q => by omega) ((hf.fr1 w kp lx').at1 hm f1)
theorem e_length {g : Gp} {x y : Int32} {h : AH} {Q : PQ} {f : Nat → Nat} {gv : Nat → List Nat} {op : Nat} {D : HD} (hf : FamR h f gv op D)
    (hq : ∀ l m, l < D.1 → m < 12 → x = nI l → y = nI m → ∀ h', Fc h h' → FamR h' f gv op D → Q (.inl (some (vI (nI (cel D f gv m l).1.length)))) h')
    (hx : (inb x D.1 && inb y 12) = false → ∀ n, zN h ≤ n → Q (.inr 1) (bump h n)) : Ev g mX9_length [vR 4, vI x, vI y] h Q := by
  have hb := hf.b
  have hD1 := hb.ok.2.1
  refine nX9_length ?_
  refine Ex.wf (fun w => ?_)
  have bad : (inb x D.1 && inb y 12) = false → Ex g mX9_length 19 [vR 4, vI x, vI y] [] h (0, 0) Q := fun e => by
    refine rX9_length_19 ?_
    simp only [bX9_length_19, run, Nat.reduceAdd, lg, st1, st2, lkill, lset, fvv, sfv, kind3, cat1, retI, retA, List.length_cons, List.length_nil, true_and, and_true, or_true, true_or, qX9_length]
    exact sX9_length_20 (by decide) (e_requireThere (fun q => absurd rfl q) fun _ n hn => hx e n hn)
  refine rX9_length_0 ?_
  simp only [bX9_length_0, run, Nat.reduceAdd, lg, st1, st2, lkill, lset, fvv, sfv, kind3, cat1, retI, retA, List.length_cons, List.length_nil, true_and, and_true, or_true, true_or, qX9_length]
  refine sX9_length_2 hb.lgs.1 (e_isLanguage hb ?_)
  simp only [cont, Option.toList, List.cons_append, List.nil_append]
  cases h1 : inb x D.1 with
  | false =>
    refine rX9_length_5 ?_
    simp only [bX9_length_5, run, Nat.reduceAdd, lg, st1, st2, lkill, lset, fvv, sfv, kind3, cat1, retI, retA, List.length_cons, List.length_nil, true_and, and_true, or_true, true_or, qX9_length, show bi false = 0 from rfl, not_true_eq_false, not_false_eq_true, false_implies, true_and, and_true, tti]
    exact bad (by rw [h1]; rfl)
  | true =>
    refine rX9_length_5 ?_
    simp only [bX9_length_5, run, Nat.reduceAdd, lg, st1, st2, lkill, lset, fvv, sfv, kind3, cat1, retI, retA, List.length_cons, List.length_nil, true_and, and_true, or_true, true_or, qX9_length, show ¬ bi true = 0 by decide, not_true_eq_false, not_false_eq_true, false_implies, true_and, and_true, tti]
    refine sX9_length_9 (e_isMeaning ?_)
    simp only [cont, Option.toList, List.cons_append, List.nil_append]
    cases h2 : inb y 12 with
    | false =>
      refine rX9_length_12 ?_
      simp only [bX9_length_12, run, Nat.reduceAdd, lg, st1, st2, lkill, lset, fvv, sfv, kind3, cat1, retI, retA, List.length_cons, List.length_nil, true_and, and_true, or_true, true_or, qX9_length, show bi false = 0 from rfl, not_true_eq_false, not_false_eq_true, false_implies, true_and, and_true, tti]
      exact bad (by rw [h1, h2]; rfl)
    | true =>
      refine rX9_length_12 ?_
      simp only [bX9_length_12, run, Nat.reduceAdd, lg, st1, st2, lkill, lset, fvv, sfv, kind3, cat1, retI, retA, List.length_cons, List.length_nil, true_and, and_true, or_true, true_or, qX9_length, show ¬ bi true = 0 by decide, not_true_eq_false, not_false_eq_true, false_implies, true_and, and_true, tti]
      refine sX9_length_20 (by decide) (e_requireThere (fun _ => ?_) fun q => absurd q (by decide))
      simp only [cont, Option.toList, List.cons_append, List.nil_append]
      obtain ⟨l, hl, rfl⟩ := inb_t (by omega) h1
      obtain ⟨m, hm, rfl⟩ := inb_t (by decide) h2
      refine rX9_length_23 ?_
      simp only [bX9_length_23, run, Nat.reduceAdd, lg, st1, st2, lkill, lset, fvv, sfv, kind3, cat1, retI, retA, List.length_cons, List.length_nil, true_and, and_true, or_true, true_or, qX9_length, hb.1.1.1, hb.1.1.2.2.2.2.1, not_true_eq_false, not_false_eq_true, false_implies, true_and, and_true, tti]
      refine sX9_length_28 hb.2.2.1.2.1 (e_fr1 w hf hm fun h2 fc kn => ?_)
      simp only [cont, Option.toList, List.cons_append, List.nil_append]
      have hb2 := kn.1.b
      have ok := cel_ok (f := f) (m := m) hb2.ok (hb2.2.1.2.2 m hm).1 hl
      refine rX9_length_31 ?_
      simp only [bX9_length_31, run, Nat.reduceAdd, lg, st1, st2, lkill, lset, fvv, sfv, kind3, cat1, retI, retA, List.length_cons, List.length_nil, true_and, and_true, or_true, true_or, qX9_length, hb2.1.1.1, hb2.1.1.2.2.2.2.1, not_true_eq_false, not_false_eq_true, false_implies, true_and, and_true, tti]
      refine sX9_length_37 hb2.2.2.1.2.1 (e_wordOf hb2.2.2.1.2 (by omega) hm (kn.2 l hl) ?_)
      simp only [cont, Option.toList, List.cons_append, List.nil_append]
      refine sX9_length_40 (e_size ok.1 ?_)
      simp only [cont, Option.toList, List.cons_append, List.nil_append]
      refine rX9_length_43 ?_
      simp only [bX9_length_43, run, Nat.reduceAdd, lg, st1, st2, lkill, lset, fvv, sfv, kind3, cat1, retI, retA, List.length_cons, List.length_nil, true_and, and_true, or_true, true_or, qX9_length]
      exact hq l m hl hm rfl rfl h2 fc kn.1
theorem e_origin {g : Gp} {x y : Int32} {h : AH} {Q : PQ} {f : Nat → Nat} {gv : Nat → List Nat} {op : Nat} {D : HD} (hf : FamR h f gv op D)
    (hq : ∀ l m, l < D.1 → m < 12 → x = nI l → y = nI m → ∀ h', Fc h h' → FamR h' f gv op D → Q (.inl (some (vI (bI (cel D f gv m l).2.1)))) h')
    (hx : (inb x D.1 && inb y 12) = false → ∀ n, zN h ≤ n → Q (.inr 1) (bump h n)) : Ev g mX9_origin [vR 4, vI x, vI y] h Q := by
  have hb := hf.b
  have hD1 := hb.ok.2.1
  refine nX9_origin ?_
  refine Ex.wf (fun w => ?_)
  have bad : (inb x D.1 && inb y 12) = false → Ex g mX9_origin 19 [vR 4, vI x, vI y] [] h (0, 0) Q := fun e => by
    refine rX9_origin_19 ?_
    simp only [bX9_origin_19, run, Nat.reduceAdd, lg, st1, st2, lkill, lset, fvv, sfv, kind3, cat1, retI, retA, List.length_cons, List.length_nil, true_and, and_true, or_true, true_or, qX9_origin]
    exact sX9_origin_20 (by decide) (e_requireThere (fun q => absurd rfl q) fun _ n hn => hx e n hn)
  refine rX9_origin_0 ?_
  simp only [bX9_origin_0, run, Nat.reduceAdd, lg, st1, st2, lkill, lset, fvv, sfv, kind3, cat1, retI, retA, List.length_cons, List.length_nil, true_and, and_true, or_true, true_or, qX9_origin]
  refine sX9_origin_2 hb.lgs.1 (e_isLanguage hb ?_)
  simp only [cont, Option.toList, List.cons_append, List.nil_append]
  cases h1 : inb x D.1 with
  | false =>
    refine rX9_origin_5 ?_
    simp only [bX9_origin_5, run, Nat.reduceAdd, lg, st1, st2, lkill, lset, fvv, sfv, kind3, cat1, retI, retA, List.length_cons, List.length_nil, true_and, and_true, or_true, true_or, qX9_origin, show bi false = 0 from rfl, not_true_eq_false, not_false_eq_true, false_implies, true_and, and_true, tti]
    exact bad (by rw [h1]; rfl)
  | true =>
    refine rX9_origin_5 ?_
    simp only [bX9_origin_5, run, Nat.reduceAdd, lg, st1, st2, lkill, lset, fvv, sfv, kind3, cat1, retI, retA, List.length_cons, List.length_nil, true_and, and_true, or_true, true_or, qX9_origin, show ¬ bi true = 0 by decide, not_true_eq_false, not_false_eq_true, false_implies, true_and, and_true, tti]
    refine sX9_origin_9 (e_isMeaning ?_)
    simp only [cont, Option.toList, List.cons_append, List.nil_append]
    cases h2 : inb y 12 with
    | false =>
      refine rX9_origin_12 ?_
      simp only [bX9_origin_12, run, Nat.reduceAdd, lg, st1, st2, lkill, lset, fvv, sfv, kind3, cat1, retI, retA, List.length_cons, List.length_nil, true_and, and_true, or_true, true_or, qX9_origin, show bi false = 0 from rfl, not_true_eq_false, not_false_eq_true, false_implies, true_and, and_true, tti]
      exact bad (by rw [h1, h2]; rfl)
    | true =>
      refine rX9_origin_12 ?_
      simp only [bX9_origin_12, run, Nat.reduceAdd, lg, st1, st2, lkill, lset, fvv, sfv, kind3, cat1, retI, retA, List.length_cons, List.length_nil, true_and, and_true, or_true, true_or, qX9_origin, show ¬ bi true = 0 by decide, not_true_eq_false, not_false_eq_true, false_implies, true_and, and_true, tti]
      refine sX9_origin_20 (by decide) (e_requireThere (fun _ => ?_) fun q => absurd q (by decide))
      simp only [cont, Option.toList, List.cons_append, List.nil_append]
      obtain ⟨l, hl, rfl⟩ := inb_t (by omega) h1
      obtain ⟨m, hm, rfl⟩ := inb_t (by decide) h2
      refine rX9_origin_23 ?_
      simp only [bX9_origin_23, run, Nat.reduceAdd, lg, st1, st2, lkill, lset, fvv, sfv, kind3, cat1, retI, retA, List.length_cons, List.length_nil, true_and, and_true, or_true, true_or, qX9_origin, hb.1.1.1, hb.1.1.2.2.2.2.1, not_true_eq_false, not_false_eq_true, false_implies, true_and, and_true, tti]
      refine sX9_origin_28 hb.2.2.1.2.1 (e_fr1 w hf hm fun h2 fc kn => ?_)
      simp only [cont, Option.toList, List.cons_append, List.nil_append]
      have hb2 := kn.1.b
      refine rX9_origin_31 ?_
      simp only [bX9_origin_31, run, Nat.reduceAdd, lg, st1, st2, lkill, lset, fvv, sfv, kind3, cat1, retI, retA, List.length_cons, List.length_nil, true_and, and_true, or_true, true_or, qX9_origin, hb2.1.1.1, hb2.1.1.2.2.2.2.1, not_true_eq_false, not_false_eq_true, false_implies, true_and, and_true, tti]
      refine sX9_origin_37 hb2.2.2.1.2.1 (e_originOf hb2.2.2.1.2 (by omega) hm (kn.2 l hl) ?_)
      simp only [cont, Option.toList, List.cons_append, List.nil_append]
      refine rX9_origin_40 ?_
      simp only [bX9_origin_40, run, Nat.reduceAdd, lg, st1, st2, lkill, lset, fvv, sfv, kind3, cat1, retI, retA, List.length_cons, List.length_nil, true_and, and_true, or_true, true_or, qX9_origin]
      exact hq l m hl hm rfl rfl h2 fc kn.1
theorem e_changedBy {g : Gp} {x y : Int32} {h : AH} {Q : PQ} {f : Nat → Nat} {gv : Nat → List Nat} {op : Nat} {D : HD} (hf : FamR h f gv op D)
    (hq : ∀ l m, l < D.1 → m < 12 → x = nI l → y = nI m → ∀ h', Fc h h' → FamR h' f gv op D → Q (.inl (some (vI (nI (cel D f gv m l).2.2)))) h')
    (hx : (inb x D.1 && inb y 12) = false → ∀ n, zN h ≤ n → Q (.inr 1) (bump h n)) : Ev g mX9_changedBy [vR 4, vI x, vI y] h Q := by
  have hb := hf.b
  have hD1 := hb.ok.2.1
  refine nX9_changedBy ?_
  refine Ex.wf (fun w => ?_)
  have bad : (inb x D.1 && inb y 12) = false → Ex g mX9_changedBy 19 [vR 4, vI x, vI y] [] h (0, 0) Q := fun e => by
    refine rX9_changedBy_19 ?_
    simp only [bX9_changedBy_19, run, Nat.reduceAdd, lg, st1, st2, lkill, lset, fvv, sfv, kind3, cat1, retI, retA, List.length_cons, List.length_nil, true_and, and_true, or_true, true_or, qX9_changedBy]
    exact sX9_changedBy_20 (by decide) (e_requireThere (fun q => absurd rfl q) fun _ n hn => hx e n hn)
  refine rX9_changedBy_0 ?_
  simp only [bX9_changedBy_0, run, Nat.reduceAdd, lg, st1, st2, lkill, lset, fvv, sfv, kind3, cat1, retI, retA, List.length_cons, List.length_nil, true_and, and_true, or_true, true_or, qX9_changedBy]
  refine sX9_changedBy_2 hb.lgs.1 (e_isLanguage hb ?_)
  simp only [cont, Option.toList, List.cons_append, List.nil_append]
  cases h1 : inb x D.1 with
  | false =>
    refine rX9_changedBy_5 ?_
    simp only [bX9_changedBy_5, run, Nat.reduceAdd, lg, st1, st2, lkill, lset, fvv, sfv, kind3, cat1, retI, retA, List.length_cons, List.length_nil, true_and, and_true, or_true, true_or, qX9_changedBy, show bi false = 0 from rfl, not_true_eq_false, not_false_eq_true, false_implies, true_and, and_true, tti]
    exact bad (by rw [h1]; rfl)
  | true =>
    refine rX9_changedBy_5 ?_
    simp only [bX9_changedBy_5, run, Nat.reduceAdd, lg, st1, st2, lkill, lset, fvv, sfv, kind3, cat1, retI, retA, List.length_cons, List.length_nil, true_and, and_true, or_true, true_or, qX9_changedBy, show ¬ bi true = 0 by decide, not_true_eq_false, not_false_eq_true, false_implies, true_and, and_true, tti]
    refine sX9_changedBy_9 (e_isMeaning ?_)
    simp only [cont, Option.toList, List.cons_append, List.nil_append]
    cases h2 : inb y 12 with
    | false =>
      refine rX9_changedBy_12 ?_
      simp only [bX9_changedBy_12, run, Nat.reduceAdd, lg, st1, st2, lkill, lset, fvv, sfv, kind3, cat1, retI, retA, List.length_cons, List.length_nil, true_and, and_true, or_true, true_or, qX9_changedBy, show bi false = 0 from rfl, not_true_eq_false, not_false_eq_true, false_implies, true_and, and_true, tti]
      exact bad (by rw [h1, h2]; rfl)
    | true =>
      refine rX9_changedBy_12 ?_
      simp only [bX9_changedBy_12, run, Nat.reduceAdd, lg, st1, st2, lkill, lset, fvv, sfv, kind3, cat1, retI, retA, List.length_cons, List.length_nil, true_and, and_true, or_true, true_or, qX9_changedBy, show ¬ bi true = 0 by decide, not_true_eq_false, not_false_eq_true, false_implies, true_and, and_true, tti]
      refine sX9_changedBy_20 (by decide) (e_requireThere (fun _ => ?_) fun q => absurd q (by decide))
      simp only [cont, Option.toList, List.cons_append, List.nil_append]
      obtain ⟨l, hl, rfl⟩ := inb_t (by omega) h1
      obtain ⟨m, hm, rfl⟩ := inb_t (by decide) h2
      refine rX9_changedBy_23 ?_
      simp only [bX9_changedBy_23, run, Nat.reduceAdd, lg, st1, st2, lkill, lset, fvv, sfv, kind3, cat1, retI, retA, List.length_cons, List.length_nil, true_and, and_true, or_true, true_or, qX9_changedBy, hb.1.1.1, hb.1.1.2.2.2.2.1, not_true_eq_false, not_false_eq_true, false_implies, true_and, and_true, tti]
      refine sX9_changedBy_28 hb.2.2.1.2.1 (e_fr1 w hf hm fun h2 fc kn => ?_)
      simp only [cont, Option.toList, List.cons_append, List.nil_append]
      have hb2 := kn.1.b
      refine rX9_changedBy_31 ?_
      simp only [bX9_changedBy_31, run, Nat.reduceAdd, lg, st1, st2, lkill, lset, fvv, sfv, kind3, cat1, retI, retA, List.length_cons, List.length_nil, true_and, and_true, or_true, true_or, qX9_changedBy, hb2.1.1.1, hb2.1.1.2.2.2.2.1, not_true_eq_false, not_false_eq_true, false_implies, true_and, and_true, tti]
      refine sX9_changedBy_37 hb2.2.2.1.2.1 (e_changersOf hb2.2.2.1.2 (by omega) hm (kn.2 l hl) ?_)
      simp only [cont, Option.toList, List.cons_append, List.nil_append]
      refine rX9_changedBy_40 ?_
      simp only [bX9_changedBy_40, run, Nat.reduceAdd, lg, st1, st2, lkill, lset, fvv, sfv, kind3, cat1, retI, retA, List.length_cons, List.length_nil, true_and, and_true, or_true, true_or, qX9_changedBy]
      exact hq l m hl hm rfl rfl h2 fc kn.1
theorem e_soundIn {g : Gp} {z : Int32} {wd : List Nat} {h : AH} {Q : PQ} (hw : Wok wd)
    (hq : ∀ p, p < wd.length → z = nI p → Q (.inl (some (vI (nI (wd.getD p 0))))) h)
    (hx : inb z wd.length = false → ∀ n, zN h ≤ n → Q (.inr 1) (bump h n)) : Ev g mX9_soundIn [vL (eC wd), vI z] h Q := by
  have h10 := hw.1
  refine nX9_soundIn ?_
  have bad : inb z wd.length = false → Ex g mX9_soundIn 16 [vL (eC wd), vU, vI z] [] h (0, 0) Q := fun e => by
    refine rX9_soundIn_16 ?_
    simp only [bX9_soundIn_16, run, Nat.reduceAdd, lg, st1, st2, lkill, lset, fvv, sfv, kind3, cat1, retI, retA, List.length_cons, List.length_nil, true_and, and_true, or_true, true_or, qX9_soundIn]
    exact sX9_soundIn_17 (by decide) (e_requireThere (fun q => absurd rfl q) fun _ n hn => hx e n hn)
  refine rX9_soundIn_0 ?_
  simp only [bX9_soundIn_0, run, Nat.reduceAdd, lg, st1, st2, lkill, lset, fvv, sfv, kind3, cat1, retI, retA, List.length_cons, List.length_nil, true_and, and_true, or_true, true_or, qX9_soundIn]
  refine ⟨fun q => bad (by simp [inb, q]), fun q => sX9_soundIn_6 (e_size hw ?_)⟩
  simp only [cont, Option.toList, List.cons_append, List.nil_append]
  refine rX9_soundIn_9 ?_
  simp only [bX9_soundIn_9, run, Nat.reduceAdd, lg, st1, st2, lkill, lset, fvv, sfv, kind3, cat1, retI, retA, List.length_cons, List.length_nil, true_and, and_true, or_true, true_or, qX9_soundIn]
  refine ⟨fun q2 => bad (by simp [inb, q2]), fun q2 => ?_⟩
  have h1 : inb z wd.length = true := by simp only [inb, q, q2, not_false_eq_true, decide_true, Bool.true_and]
  refine sX9_soundIn_17 (by decide) (e_requireThere (fun _ => ?_) fun q => absurd q (by decide))
  simp only [cont, Option.toList, List.cons_append, List.nil_append]
  obtain ⟨p, hp, rfl⟩ := inb_t (by omega) h1
  refine rX9_soundIn_20 ?_
  simp only [bX9_soundIn_20, run, Nat.reduceAdd, lg, st1, st2, lkill, lset, fvv, sfv, kind3, cat1, retI, retA, List.length_cons, List.length_nil, true_and, and_true, or_true, true_or, qX9_soundIn]
  refine sX9_soundIn_22 (e_at hw hp ?_)
  simp only [cont, Option.toList, List.cons_append, List.nil_append]
  refine rX9_soundIn_25 ?_
  simp only [bX9_soundIn_25, run, Nat.reduceAdd, lg, st1, st2, lkill, lset, fvv, sfv, kind3, cat1, retI, retA, List.length_cons, List.length_nil, true_and, and_true, or_true, true_or, qX9_soundIn]
  exact hq p hp rfl
theorem e_soundAt {g : Gp} {x y z : Int32} {h : AH} {Q : PQ} {f : Nat → Nat} {gv : Nat → List Nat} {op : Nat} {D : HD} (hf : FamR h f gv op D)
    (hq : ∀ l m, l < D.1 → m < 12 → x = nI l → y = nI m → ∀ h', Fc h h' → FamR h' f gv op D → (∀ p, p < (cel D f gv m l).1.length → z = nI p → Q (.inl (some (vI (nI ((cel D f gv m l).1.getD p 0))))) h') ∧ (inb z (cel D f gv m l).1.length = false → ∀ n, zN h' ≤ n → Q (.inr 1) (bump h' n)))
    (hx : (inb x D.1 && inb y 12) = false → ∀ n, zN h ≤ n → Q (.inr 1) (bump h n)) : Ev g mX9_soundAt [vR 4, vI x, vI y, vI z] h Q := by
  have hb := hf.b
  have hD1 := hb.ok.2.1
  refine nX9_soundAt ?_
  refine Ex.wf (fun w => ?_)
  have bad : (inb x D.1 && inb y 12) = false → Ex g mX9_soundAt 19 [vR 4, vI x, vI y, vI z] [] h (0, 0) Q := fun e => by
    refine rX9_soundAt_19 ?_
    simp only [bX9_soundAt_19, run, Nat.reduceAdd, lg, st1, st2, lkill, lset, fvv, sfv, kind3, cat1, retI, retA, List.length_cons, List.length_nil, true_and, and_true, or_true, true_or, qX9_soundAt]
    exact sX9_soundAt_20 (by decide) (e_requireThere (fun q => absurd rfl q) fun _ n hn => hx e n hn)
  refine rX9_soundAt_0 ?_
  simp only [bX9_soundAt_0, run, Nat.reduceAdd, lg, st1, st2, lkill, lset, fvv, sfv, kind3, cat1, retI, retA, List.length_cons, List.length_nil, true_and, and_true, or_true, true_or, qX9_soundAt]
  refine sX9_soundAt_2 hb.lgs.1 (e_isLanguage hb ?_)
  simp only [cont, Option.toList, List.cons_append, List.nil_append]
  cases h1 : inb x D.1 with
  | false =>
    refine rX9_soundAt_5 ?_
    simp only [bX9_soundAt_5, run, Nat.reduceAdd, lg, st1, st2, lkill, lset, fvv, sfv, kind3, cat1, retI, retA, List.length_cons, List.length_nil, true_and, and_true, or_true, true_or, qX9_soundAt, show bi false = 0 from rfl, not_true_eq_false, not_false_eq_true, false_implies, true_and, and_true, tti]
    exact bad (by rw [h1]; rfl)
  | true =>
    refine rX9_soundAt_5 ?_
    simp only [bX9_soundAt_5, run, Nat.reduceAdd, lg, st1, st2, lkill, lset, fvv, sfv, kind3, cat1, retI, retA, List.length_cons, List.length_nil, true_and, and_true, or_true, true_or, qX9_soundAt, show ¬ bi true = 0 by decide, not_true_eq_false, not_false_eq_true, false_implies, true_and, and_true, tti]
    refine sX9_soundAt_9 (e_isMeaning ?_)
    simp only [cont, Option.toList, List.cons_append, List.nil_append]
    cases h2 : inb y 12 with
    | false =>
      refine rX9_soundAt_12 ?_
      simp only [bX9_soundAt_12, run, Nat.reduceAdd, lg, st1, st2, lkill, lset, fvv, sfv, kind3, cat1, retI, retA, List.length_cons, List.length_nil, true_and, and_true, or_true, true_or, qX9_soundAt, show bi false = 0 from rfl, not_true_eq_false, not_false_eq_true, false_implies, true_and, and_true, tti]
      exact bad (by rw [h1, h2]; rfl)
    | true =>
      refine rX9_soundAt_12 ?_
      simp only [bX9_soundAt_12, run, Nat.reduceAdd, lg, st1, st2, lkill, lset, fvv, sfv, kind3, cat1, retI, retA, List.length_cons, List.length_nil, true_and, and_true, or_true, true_or, qX9_soundAt, show ¬ bi true = 0 by decide, not_true_eq_false, not_false_eq_true, false_implies, true_and, and_true, tti]
      refine sX9_soundAt_20 (by decide) (e_requireThere (fun _ => ?_) fun q => absurd q (by decide))
      simp only [cont, Option.toList, List.cons_append, List.nil_append]
      obtain ⟨l, hl, rfl⟩ := inb_t (by omega) h1
      obtain ⟨m, hm, rfl⟩ := inb_t (by decide) h2
      refine rX9_soundAt_23 ?_
      simp only [bX9_soundAt_23, run, Nat.reduceAdd, lg, st1, st2, lkill, lset, fvv, sfv, kind3, cat1, retI, retA, List.length_cons, List.length_nil, true_and, and_true, or_true, true_or, qX9_soundAt, hb.1.1.1, hb.1.1.2.2.2.2.1, not_true_eq_false, not_false_eq_true, false_implies, true_and, and_true, tti]
      refine sX9_soundAt_28 hb.2.2.1.2.1 (e_fr1 w hf hm fun h2 fc kn => ?_)
      simp only [cont, Option.toList, List.cons_append, List.nil_append]
      have hb2 := kn.1.b
      have ok := cel_ok (f := f) (m := m) hb2.ok (hb2.2.1.2.2 m hm).1 hl
      refine rX9_soundAt_31 ?_
      simp only [bX9_soundAt_31, run, Nat.reduceAdd, lg, st1, st2, lkill, lset, fvv, sfv, kind3, cat1, retI, retA, List.length_cons, List.length_nil, true_and, and_true, or_true, true_or, qX9_soundAt, hb2.1.1.1, hb2.1.1.2.2.2.2.1, not_true_eq_false, not_false_eq_true, false_implies, true_and, and_true, tti]
      refine sX9_soundAt_37 hb2.2.2.1.2.1 (e_wordOf hb2.2.2.1.2 (by omega) hm (kn.2 l hl) ?_)
      simp only [cont, Option.toList, List.cons_append, List.nil_append]
      refine rX9_soundAt_40 ?_
      simp only [bX9_soundAt_40, run, Nat.reduceAdd, lg, st1, st2, lkill, lset, fvv, sfv, kind3, cat1, retI, retA, List.length_cons, List.length_nil, true_and, and_true, or_true, true_or, qX9_soundAt]
      obtain ⟨q1, q2⟩ := hq l m hl hm rfl rfl h2 fc kn.1
      refine sX9_soundAt_41 (by decide) (e_soundIn ok.1 (fun p hp ez => ?_) fun e n hn => q2 e n hn)
      simp only [cont, Option.toList, List.cons_append, List.nil_append]
      refine rX9_soundAt_44 ?_
      simp only [bX9_soundAt_44, run, Nat.reduceAdd, lg, st1, st2, lkill, lset, fvv, sfv, kind3, cat1, retI, retA, List.length_cons, List.length_nil, true_and, and_true, or_true, true_or, qX9_soundAt]
      exact q1 p hp ez
