/-! ===== words without loans ===== -/
theorem FamR.fr2 {h h' : AH} {f : Nat → Nat} {gv : Nat → List Nat} {op : Nat} {D : HD} (w : Wf h) (hf : FamR h f gv op D) (k : Kp (fun a => 39 ≤ a ∧ a ≤ 42) h h') (lx : LxR h' 36 39 (noL D) f gv) : FamR h' f gv op D ∧ ∀ k c, CR h 32 k c → CR h' 32 k c := by
  have hb := hf.b
  have fb := hb.kp w k (fun a q => Or.inr (Or.inl q)) fun a q1 q2 => by
    have := hb.big w
    rw [(k.2.2 a (by omega) (by omega)).2.2.2]
  obtain ⟨-, -, ⟨-, -, l2⟩, -, -, -, -, -, kc⟩ := hf
  have b6 := hb.2.2.1.2
  have b10 := hb.2.2.2.2.2.2.2
  obtain ⟨-, -, -, -, -, -, -, d1, d2, d3, d4, -⟩ := b6
  have s32 := k.2.2 32 (w.lt d1 (by decide)) (by decide)
  have s33 := k.2.2 33 (w.lt d2 (by decide)) (by decide)
  have s34 := k.2.2 34 (w.lt d3 (by decide)) (by decide)
  have s35 := k.2.2 35 (w.lt d4 (by decide)) (by decide)
  have cr : ∀ k c, CR h 32 k c → CR h' 32 k c := fun k c this => ⟨by rw [s32.2.1]; exact this.1, by rw [show 32 + 1 = 33 from rfl, s33.1]; exact this.2.1, by rw [show 32 + 2 = 34 from rfl, s34.1]; exact this.2.2⟩
  refine ⟨fb.r ⟨fb.2.2.1.2, fun m hm => ?_⟩ lx fun m hm i j q1 q2 => ?_, cr⟩
  · rw [show 32 + 3 = 35 from rfl, s35.1]
    exact (l2 m hm).imp id fun q => ⟨q.1, fun l hl => cr _ _ (q.2 l hl)⟩
  · rw [(k.2.2 (87 + m) (w.lt (b10.2 m hm).2 (by decide)) (by omega)).1]
    exact kc m hm i j q1 q2
theorem e_fr2 {g : Gp} {m : Nat} {h : AH} {Q : PQ} {f : Nat → Nat} {gv : Nat → List Nat} {op : Nat} {D : HD} (w : Wf h) (kn : Kn1 h f gv op D m) (hm : m < 12)
    (hq : ∀ h', Fc h h' → Kn1 h' f gv op D m → (∀ l, l < D.1 → CR h' 39 (l * 12 + m) (cel (noL D) f gv m l)) → Q (.inl none) h') : Ev g mX4_freshen [vR 36, vI (nI m)] h Q := by
  obtain ⟨⟨⟨c1, c2, c3, c4, c5, c6, c7, c8, c9, c10, c11, c12, c13, c14, c15, c16⟩, -⟩, ⟨sn, gr⟩, -, ⟨hs, lx⟩, -⟩ := id kn.1
  refine e_freshen lx (by rw [c16]; exact hs) (noL_ok kn.1.b.ok) sn gr hm fun h' kp lx' f1 _ => ?_
  obtain ⟨fr, cr⟩ := kn.1.fr2 w kp lx'
  exact hq h' (kp.fc fun a q => by omega) ⟨fr, fun l hl => cr _ _ (kn.2 l hl)⟩ ((lx'.2 m hm).resolve_left (by rw [f1]; decide)).2
/-- all words without loans are known -/
def KnU (h : AH) (f : Nat → Nat) (gv : Nat → List Nat) (D : HD) : Prop := ∀ m, m < 12 → ∀ l, l < D.1 → CR h 39 (l * 12 + m) (cel (noL D) f gv m l)
theorem e_frU {g : Gp} {h : AH} {Q : PQ} {f : Nat → Nat} {gv : Nat → List Nat} {op : Nat} {D : HD} (w : Wf h) (kn : KnA h f gv op D)
    (hq : ∀ h', Fc h h' → KnA h' f gv op D → KnU h' f gv D → Q (.inl none) h') : Ev g mX4_freshenAll [vR 36] h Q := by
  obtain ⟨⟨⟨c1, c2, c3, c4, c5, c6, c7, c8, c9, c10, c11, c12, c13, c14, c15, c16⟩, -⟩, ⟨sn, gr⟩, -, ⟨hs, lx⟩, -⟩ := id kn.1
  refine e_freshenAll lx (by rw [c16]; exact hs) (noL_ok kn.1.b.ok) sn gr fun h' kp lx' f1 => ?_
  obtain ⟨fr, cr⟩ := kn.1.fr2 w kp lx'
  exact hq h' (kp.fc fun a q => by omega) ⟨fr, fun m hm l hl => cr _ _ (kn.2 m hm l hl)⟩ fun m hm => ((lx'.2 m hm).resolve_left (by rw [f1 m hm]; decide)).2
theorem Ku.knU {h h' : AH} {f : Nat → Nat} {gv : Nat → List Nat} {op : Nat} {D : HD} (w : Wf h) (hf : FamR h f gv op D) (y : Ku h h') (k : KnU h f gv D) : KnU h' f gv D := fun m hm l hl => y.cr w hf.b.2.2.2.1.2 (by decide) (k m hm l hl)
theorem e_looksLent {g : Gp} {x y : Int32} {h : AH} {Q : PQ} {f : Nat → Nat} {gv : Nat → List Nat} {op : Nat} {D : HD} (hf : FamR h f gv op D)
    (hq : ∀ l m, l < D.1 → m < 12 → x = nI l → y = nI m → ∀ h', Fc h h' → FamR h' f gv op D → Q (.inl (some (vI (if (cel D f gv m l).1 = (cel (noL D) f gv m l).1 then 0 else 1)))) h')
    (hx : (inb x D.1 && inb y 12) = false → ∀ n, zN h ≤ n → Q (.inr 1) (bump h n)) : Ev g mX9_looksLent [vR 4, vI x, vI y] h Q := by
  have hb := hf.b
  have hD1 := hb.ok.2.1
  refine nX9_looksLent ?_
  refine Ex.wf (fun w => ?_)
  have bad : (inb x D.1 && inb y 12) = false → Ex g mX9_looksLent 19 [vR 4, vI x, vI y] [] h (0, 0) Q := fun e => by
    refine rX9_looksLent_19 ?_
    simp only [bX9_looksLent_19, run, Nat.reduceAdd, lg, st1, st2, lkill, lset, fvv, sfv, kind3, cat1, retI, retA, List.length_cons, List.length_nil, true_and, and_true, or_true, true_or, qX9_looksLent]
    exact sX9_looksLent_20 (by decide) (e_requireThere (fun q => absurd rfl q) fun _ n hn => hx e n hn)
  refine rX9_looksLent_0 ?_
  simp only [bX9_looksLent_0, run, Nat.reduceAdd, lg, st1, st2, lkill, lset, fvv, sfv, kind3, cat1, retI, retA, List.length_cons, List.length_nil, true_and, and_true, or_true, true_or, qX9_looksLent]
  refine sX9_looksLent_2 hb.lgs.1 (e_isLanguage hb ?_)
  simp only [cont, Option.toList, List.cons_append, List.nil_append]
  cases h1 : inb x D.1 with
  | false =>
    refine rX9_looksLent_5 ?_
    simp only [bX9_looksLent_5, run, Nat.reduceAdd, lg, st1, st2, lkill, lset, fvv, sfv, kind3, cat1, retI, retA, List.length_cons, List.length_nil, true_and, and_true, or_true, true_or, qX9_looksLent, show bi false = 0 from rfl, not_true_eq_false, not_false_eq_true, false_implies, true_and, and_true, tti]
    exact bad (by rw [h1]; rfl)
  | true =>
    refine rX9_looksLent_5 ?_
    simp only [bX9_looksLent_5, run, Nat.reduceAdd, lg, st1, st2, lkill, lset, fvv, sfv, kind3, cat1, retI, retA, List.length_cons, List.length_nil, true_and, and_true, or_true, true_or, qX9_looksLent, show ¬ bi true = 0 by decide, not_true_eq_false, not_false_eq_true, false_implies, true_and, and_true, tti]
    refine sX9_looksLent_9 (e_isMeaning ?_)
    simp only [cont, Option.toList, List.cons_append, List.nil_append]
    cases h2 : inb y 12 with
    | false =>
      refine rX9_looksLent_12 ?_
      simp only [bX9_looksLent_12, run, Nat.reduceAdd, lg, st1, st2, lkill, lset, fvv, sfv, kind3, cat1, retI, retA, List.length_cons, List.length_nil, true_and, and_true, or_true, true_or, qX9_looksLent, show bi false = 0 from rfl, not_true_eq_false, not_false_eq_true, false_implies, true_and, and_true, tti]
      exact bad (by rw [h1, h2]; rfl)
    | true =>
      refine rX9_looksLent_12 ?_
      simp only [bX9_looksLent_12, run, Nat.reduceAdd, lg, st1, st2, lkill, lset, fvv, sfv, kind3, cat1, retI, retA, List.length_cons, List.length_nil, true_and, and_true, or_true, true_or, qX9_looksLent, show ¬ bi true = 0 by decide, not_true_eq_false, not_false_eq_true, false_implies, true_and, and_true, tti]
      refine sX9_looksLent_20 (by decide) (e_requireThere (fun _ => ?_) fun q => absurd q (by decide))
      simp only [cont, Option.toList, List.cons_append, List.nil_append]
      obtain ⟨l, hl, rfl⟩ := inb_t (by omega) h1
      obtain ⟨m, hm, rfl⟩ := inb_t (by decide) h2
      refine rX9_looksLent_23 ?_
      simp only [bX9_looksLent_23, run, Nat.reduceAdd, lg, st1, st2, lkill, lset, fvv, sfv, kind3, cat1, retI, retA, List.length_cons, List.length_nil, true_and, and_true, or_true, true_or, qX9_looksLent, hb.1.1.1, hb.1.1.2.2.2.2.1, not_true_eq_false, not_false_eq_true, false_implies, true_and, and_true, tti]
      refine sX9_looksLent_28 hb.2.2.1.2.1 (e_fr1 w hf hm fun h2 fc kn => ?_)
      simp only [cont, Option.toList, List.cons_append, List.nil_append]
      refine Ex.wf (fun w2 => ?_)
      have hb2 := kn.1.b
      refine rX9_looksLent_31 ?_
      simp only [bX9_looksLent_31, run, Nat.reduceAdd, lg, st1, st2, lkill, lset, fvv, sfv, kind3, cat1, retI, retA, List.length_cons, List.length_nil, true_and, and_true, or_true, true_or, qX9_looksLent, hb2.1.1.1, hb2.1.1.2.2.2.2.2.1, not_true_eq_false, not_false_eq_true, false_implies, true_and, and_true, tti]
      refine sX9_looksLent_36 hb2.2.2.2.1.2.1 (e_fr2 w2 kn hm fun h3 fc3 kn3 ku3 => ?_)
      simp only [cont, Option.toList, List.cons_append, List.nil_append]
      have hb3 := kn3.1.b
      have gm := (hb3.2.1.2.2 m hm).1
      refine rX9_looksLent_39 ?_
      simp only [bX9_looksLent_39, run, Nat.reduceAdd, lg, st1, st2, lkill, lset, fvv, sfv, kind3, cat1, retI, retA, List.length_cons, List.length_nil, true_and, and_true, or_true, true_or, qX9_looksLent, hb3.1.1.1, hb3.1.1.2.2.2.2.2.1, not_true_eq_false, not_false_eq_true, false_implies, true_and, and_true, tti]
      refine sX9_looksLent_46 hb3.lgs.1 (e_differs hb3 hb3.2.2.2.1.2 (by omega) hm (kn3.2 l hl) (ku3 l hl) (kn3.ok hm hl).1 (cel_ok (noL_ok hb.ok) gm hl).1 ?_)
      simp only [cont, Option.toList, List.cons_append, List.nil_append]
      refine rX9_looksLent_49 ?_
      simp only [bX9_looksLent_49, run, Nat.reduceAdd, lg, st1, st2, lkill, lset, fvv, sfv, kind3, cat1, retI, retA, List.length_cons, List.length_nil, true_and, and_true, or_true, true_or, qX9_looksLent]
      exact ⟨by split <;> decide, hq l m hl hm rfl rfl h3 (fc.tr fc3) kn3.1⟩
