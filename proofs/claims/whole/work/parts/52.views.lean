/-! ===== two words beside each other: what a view changes ===== -/
def Kv (h h' : AH) : Prop := zK h' = zK h ∧ zR h' = zR h ∧ Kp (fun a => 48 ≤ a ∧ a ≤ 85) h h'
theorem Kv.rf {h : AH} : Kv h h := ⟨rfl, rfl, Kp.rf⟩
theorem Kv.tr {h1 h2 h3 : AH} (x : Kv h1 h2) (y : Kv h2 h3) : Kv h1 h3 := ⟨y.1.trans x.1, y.2.1.trans x.2.1, x.2.2.tr y.2.2⟩
theorem Kv.cr {k b x : Nat} {h h' : AH} {c : Cell3} (w : Wf h) (lx : LxS h x b) (y : Kv h h') (hb : b + 3 < 48) (hc : CR h b k c) : CR h' b k c := by
  obtain ⟨-, -, -, -, -, -, -, d1, d2, d3, -⟩ := lx
  have s1 := y.2.2.2.2 b (w.lt d1 (by decide)) (by omega)
  have s2 := y.2.2.2.2 (b + 1) (w.lt d2 (by decide)) (by omega)
  have s3 := y.2.2.2.2 (b + 2) (w.lt d3 (by decide)) (by omega)
  exact ⟨by rw [s1.2.1]; exact hc.1, by rw [s2.1]; exact hc.2.1, by rw [s3.1]; exact hc.2.2⟩
theorem Kv.lx {b x : Nat} {h h' : AH} {D : HD} {f : Nat → Nat} {gv : Nat → List Nat} (w : Wf h) (lx : LxS h x b) (y : Kv h h') (hb : b + 3 < 48) (lx' : LxS h' x b) (l : LxR h x b D f gv) : LxR h' x b D f gv := by
  refine ⟨lx', fun k hk => ?_⟩
  have s := y.2.2.2.2 (b + 3) (w.lt lx.2.2.2.2.2.2.2.2.2.2.1 (by decide)) (by omega)
  rw [s.1]
  exact (l.2 k hk).imp id fun q => ⟨q.1, fun l hl => Kv.cr w lx y hb (q.2 l hl)⟩
theorem Kv.fam {h h' : AH} {f : Nat → Nat} {gv : Nat → List Nat} {op : Nat} {D : HD} (w : Wf h) (hf : FamR h f gv op D) (y : Kv h h') : FamR h' f gv op D := by
  have hb := hf.b
  have fb := hb.kp w y.2.2 (fun a q => by unfold dat; omega) fun a _ _ => by rw [y.2.1]
  obtain ⟨-, -, ⟨-, l1⟩, ⟨-, l2⟩, -, -, -, -, kc0⟩ := hf
  have b10 := hb.2.2.2.2.2.2.2
  refine fb.r (Kv.lx w hb.2.2.1.2 y (by decide) fb.2.2.1.2 l1) (Kv.lx w hb.2.2.2.1.2 y (by decide) fb.2.2.2.1.2 l2) fun k hk i j q1 q2 => ?_
  rw [(y.2.2.2.2 (87 + k) (w.lt (b10.2 k hk).2 (by decide)) (by omega)).1]
  exact kc0 k hk i j q1 q2
theorem Kv.kn1 {h h' : AH} {f : Nat → Nat} {gv : Nat → List Nat} {op m : Nat} {D : HD} (w : Wf h) (kn : Kn1 h f gv op D m) (y : Kv h h') : Kn1 h' f gv op D m := ⟨y.fam w kn.1, fun l hl => y.cr w kn.1.b.2.2.1.2 (by decide) (kn.2 l hl)⟩
theorem Kv.knA {h h' : AH} {f : Nat → Nat} {gv : Nat → List Nat} {op : Nat} {D : HD} (w : Wf h) (kn : KnA h f gv op D) (y : Kv h h') : KnA h' f gv op D := ⟨y.fam w kn.1, fun m hm l hl => y.cr w kn.1.b.2.2.1.2 (by decide) (kn.2 m hm l hl)⟩
theorem KnA.at1 {h : AH} {f : Nat → Nat} {gv : Nat → List Nat} {op m : Nat} {D : HD} (kn : KnA h f gv op D) (hm : m < 12) : Kn1 h f gv op D m := ⟨kn.1, kn.2 m hm⟩
theorem Kv.fc {h h' : AH} (y : Kv h h') : Fc h h' := y.2.2.fc fun a q => by omega
/-- the columns of two words; none if one is none -/
def clo (f : Nat → Nat) (a b : List Nat) : List (Nat × Nat) := if ¬ a = [] ∧ ¬ b = [] then cls f a b else []
theorem clo_len {f : Nat → Nat} {a b : List Nat} (ha : Wok a) (hb : Wok b) : (clo f a b).length ≤ 20 := by
  unfold clo
  split
  · exact cls_len ha hb
  · simp
theorem clo_le {f : Nat → Nat} {a b : List Nat} (ha : Wok a) (hb : Wok b) {k : Nat} (hk : k < (clo f a b).length) : ((clo f a b).getD k (0, 0)).1 ≤ 16 ∧ ((clo f a b).getD k (0, 0)).2 ≤ 16 := by
  have e : (clo f a b).getD k (0, 0) ∈ clo f a b := by
    rw [List.getD_eq_getElem?_getD, List.getElem?_eq_getElem hk]
    exact List.getElem_mem hk
  revert e
  generalize (clo f a b).getD k (0, 0) = c
  unfold clo
  split
  · exact fun e => clf_le _ a b ha.2 hb.2 c e
  · intro e; exact absurd e (by simp)
theorem e_layOut {g : Gp} {m i j : Nat} {h : AH} {Q : PQ} {f : Nat → Nat} {gv : Nat → List Nat} {op : Nat} {D : HD} (kn : Kn1 h f gv op D m) (hm : m < 12) (hi : i < D.1) (hj : j < D.1)
    (hq : ∀ h', zK h' = zK h → zR h' = zR h → Kp (fun c => 48 ≤ c ∧ c ≤ 64) h h' → ColR h' (clo f (cel D f gv m i).1 (cel D f gv m j).1) → Q (.inl (some (vI (nI (clo f (cel D f gv m i).1 (cel D f gv m j).1).length)))) h') : Ev g mX9_layOut [vR 4, vI (nI m), vI (nI i), vI (nI j)] h Q := by
  have hf := kn.1
  have hb := hf.b
  have hD1 := hb.ok.2.1
  have gm := (hb.2.1.2.2 m hm).1
  have oki := cel_ok (f := f) (m := m) hb.ok gm hi
  have okj := cel_ok (f := f) (m := m) hb.ok gm hj
  have c1 := hb.1.1.1
  obtain ⟨-, f0, f1, f3, f4, f5, f6, f7, f8, f9, -⟩ := hb.1.1
  have lx := hb.2.2.1.2
  refine nX9_layOut ?_
  refine rX9_layOut_0 ?_
  simp only [bX9_layOut_0, run, Nat.reduceAdd, lg, st1, st2, lkill, lset, fvv, sfv, kind3, cat1, retI, retA, List.length_cons, List.length_nil, true_and, and_true, or_true, true_or, qX9_layOut, c1, f4, not_true_eq_false, not_false_eq_true, false_implies, true_and, and_true, tti]
  refine sX9_layOut_7 lx.1 (e_bothHave lx (by omega) (by omega) hm (kn.2 i hi) (kn.2 j hj) oki.1 okj.1 ?_)
  simp only [cont, Option.toList, List.cons_append, List.nil_append]
  by_cases hb2 : ¬ (cel D f gv m i).1 = [] ∧ ¬ (cel D f gv m j).1 = []
  · rw [show clo f (cel D f gv m i).1 (cel D f gv m j).1 = cls f (cel D f gv m i).1 (cel D f gv m j).1 from if_pos hb2] at hq
    refine rX9_layOut_10 ?_
    simp only [bX9_layOut_10, run, Nat.reduceAdd, lg, st1, st2, lkill, lset, fvv, sfv, kind3, cat1, retI, retA, List.length_cons, List.length_nil, true_and, and_true, or_true, true_or, qX9_layOut, if_pos hb2, show ¬ (1 : Int32) = 0 by decide, not_true_eq_false, not_false_eq_true, false_implies, true_and, and_true, tti]
    refine rX9_layOut_15 ?_
    simp only [bX9_layOut_15, run, Nat.reduceAdd, lg, st1, st2, lkill, lset, fvv, sfv, kind3, cat1, retI, retA, List.length_cons, List.length_nil, true_and, and_true, or_true, true_or, qX9_layOut, c1, f7, f4, not_true_eq_false, not_false_eq_true, false_implies, true_and, and_true, tti]
    refine sX9_layOut_25 lx.1 (e_wordOf lx (by omega) hm (kn.2 i hi) ?_)
    simp only [cont, Option.toList, List.cons_append, List.nil_append]
    refine rX9_layOut_28 ?_
    simp only [bX9_layOut_28, run, Nat.reduceAdd, lg, st1, st2, lkill, lset, fvv, sfv, kind3, cat1, retI, retA, List.length_cons, List.length_nil, true_and, and_true, or_true, true_or, qX9_layOut, c1, f4, not_true_eq_false, not_false_eq_true, false_implies, true_and, and_true, tti]
    refine sX9_layOut_34 lx.1 (e_wordOf lx (by omega) hm (kn.2 j hj) ?_)
    simp only [cont, Option.toList, List.cons_append, List.nil_append]
    have al := hb.2.2.2.2.2.1
    refine sX9_layOut_37 al.1 (e_align hb.2.1.1 al oki.1 okj.1 fun h2 k2 r2 kp2 cl => ?_)
    simp only [cont, Option.toList, List.cons_append, List.nil_append]
    refine rX9_layOut_40 ?_
    simp only [bX9_layOut_40, run, Nat.reduceAdd, lg, st1, st2, lkill, lset, fvv, sfv, kind3, cat1, retI, retA, List.length_cons, List.length_nil, true_and, and_true, or_true, true_or, qX9_layOut]
    exact hq h2 k2 r2 kp2 cl
  · rw [show clo f (cel D f gv m i).1 (cel D f gv m j).1 = [] from if_neg hb2] at hq
    refine rX9_layOut_10 ?_
    simp only [bX9_layOut_10, run, Nat.reduceAdd, lg, st1, st2, lkill, lset, fvv, sfv, kind3, cat1, retI, retA, List.length_cons, List.length_nil, true_and, and_true, or_true, true_or, qX9_layOut, if_neg hb2, not_true_eq_false, not_false_eq_true, false_implies, true_and, and_true, tti]
    exact hq h rfl rfl Kp.rf fun k hk => absurd hk (Nat.not_lt_zero _)
theorem Kv.of64 {h h' : AH} (e1 : zK h' = zK h) (e2 : zR h' = zR h) (k : Kp (fun c => 48 ≤ c ∧ c ≤ 64) h h') : Kv h h' := ⟨e1, e2, k.mono fun a _ q => ⟨q.1, by omega⟩⟩
theorem e_columns {g : Gp} {a0 a1 a2 : Int32} {h : AH} {Q : PQ} {f : Nat → Nat} {gv : Nat → List Nat} {op : Nat} {D : HD} (hf : FamR h f gv op D)
    (hq : ∀ m i j, m < 12 → i < D.1 → j < D.1 → a0 = nI m → a1 = nI i → a2 = nI j → ∀ h', Fc h h' → FamR h' f gv op D → Q (.inl (some (vI (nI (clo f (cel D f gv m i).1 (cel D f gv m j).1).length)))) h')
    (hx : (inb a1 D.1 && inb a2 D.1) = false → ∀ n, zN h ≤ n → Q (.inr 1) (bump h n))
    (hx2 : (inb a1 D.1 && inb a2 D.1) = true → inb a0 12 = false → ∀ n, zN h ≤ n → Q (.inr 2) (bump h n)) : Ev g mX9_columns [vR 4, vI a0, vI a1, vI a2] h Q := by
  have hb := hf.b
  have hD1 := hb.ok.2.1
  refine nX9_columns ?_
  refine Ex.wf (fun w => ?_)
  have bad1 : (inb a1 D.1 && inb a2 D.1) = false → Ex g mX9_columns 20 [vR 4, vI a0, vI a1, vI a2] [] h (0, 0) Q := fun e => by
    refine rX9_columns_20 ?_
    simp only [bX9_columns_20, run, Nat.reduceAdd, lg, st1, st2, lkill, lset, fvv, sfv, kind3, cat1, retI, retA, List.length_cons, List.length_nil, true_and, and_true, or_true, true_or, qX9_columns]
    exact sX9_columns_21 (by decide) (e_requireThere (fun q => absurd rfl q) fun _ n hn => hx e n hn)
  refine rX9_columns_0 ?_
  simp only [bX9_columns_0, run, Nat.reduceAdd, lg, st1, st2, lkill, lset, fvv, sfv, kind3, cat1, retI, retA, List.length_cons, List.length_nil, true_and, and_true, or_true, true_or, qX9_columns]
  refine sX9_columns_2 hb.lgs.1 (e_isLanguage hb ?_)
  simp only [cont, Option.toList, List.cons_append, List.nil_append]
  cases e1 : inb a1 D.1 with
  | false =>
    refine rX9_columns_5 ?_
    simp only [bX9_columns_5, run, Nat.reduceAdd, lg, st1, st2, lkill, lset, fvv, sfv, kind3, cat1, retI, retA, List.length_cons, List.length_nil, true_and, and_true, or_true, true_or, qX9_columns, show bi false = 0 from rfl, not_true_eq_false, not_false_eq_true, false_implies, true_and, and_true, tti]
    exact bad1 (by rw [e1]; rfl)
  | true =>
    refine rX9_columns_5 ?_
    simp only [bX9_columns_5, run, Nat.reduceAdd, lg, st1, st2, lkill, lset, fvv, sfv, kind3, cat1, retI, retA, List.length_cons, List.length_nil, true_and, and_true, or_true, true_or, qX9_columns, show ¬ bi true = 0 by decide, not_true_eq_false, not_false_eq_true, false_implies, true_and, and_true, tti]
    refine sX9_columns_10 hb.lgs.1 (e_isLanguage hb ?_)
    simp only [cont, Option.toList, List.cons_append, List.nil_append]
    cases e2 : inb a2 D.1 with
    | false =>
      refine rX9_columns_13 ?_
      simp only [bX9_columns_13, run, Nat.reduceAdd, lg, st1, st2, lkill, lset, fvv, sfv, kind3, cat1, retI, retA, List.length_cons, List.length_nil, true_and, and_true, or_true, true_or, qX9_columns, show bi false = 0 from rfl, not_true_eq_false, not_false_eq_true, false_implies, true_and, and_true, tti]
      exact bad1 (by rw [e1, e2]; rfl)
    | true =>
      refine rX9_columns_13 ?_
      simp only [bX9_columns_13, run, Nat.reduceAdd, lg, st1, st2, lkill, lset, fvv, sfv, kind3, cat1, retI, retA, List.length_cons, List.length_nil, true_and, and_true, or_true, true_or, qX9_columns, show ¬ bi true = 0 by decide, not_true_eq_false, not_false_eq_true, false_implies, true_and, and_true, tti]
      refine sX9_columns_21 (by decide) (e_requireThere (fun _ => ?_) fun q => absurd q (by decide))
      simp only [cont, Option.toList, List.cons_append, List.nil_append]
      refine rX9_columns_24 ?_
      simp only [bX9_columns_24, run, Nat.reduceAdd, lg, st1, st2, lkill, lset, fvv, sfv, kind3, cat1, retI, retA, List.length_cons, List.length_nil, true_and, and_true, or_true, true_or, qX9_columns]
      refine sX9_columns_25 (e_isMeaning ?_)
      simp only [cont, Option.toList, List.cons_append, List.nil_append]
      refine sX9_columns_28 (by decide) (e_refuseUnless (fun q => ?_) fun q n hn => hx2 (by rw [e1, e2]; rfl) (bi_0.mp q) n hn)
      simp only [cont, Option.toList, List.cons_append, List.nil_append]
      obtain ⟨i, hi, rfl⟩ := inb_t (by omega) e1
      obtain ⟨j, hj, rfl⟩ := inb_t (by omega) e2
      obtain ⟨m, hm, rfl⟩ := inb_t (by decide) (ts_nf fun e => q (bi_0.mpr e))
      refine rX9_columns_31 ?_
      simp only [bX9_columns_31, run, Nat.reduceAdd, lg, st1, st2, lkill, lset, fvv, sfv, kind3, cat1, retI, retA, List.length_cons, List.length_nil, true_and, and_true, or_true, true_or, qX9_columns, hb.1.1.1, hb.1.1.2.2.2.2.1, not_true_eq_false, not_false_eq_true, false_implies, true_and, and_true, tti]
      refine sX9_columns_36 hb.2.2.1.2.1 (e_fr1 w hf hm fun h2 fc kn => ?_)
      simp only [cont, Option.toList, List.cons_append, List.nil_append]
      refine Ex.wf (fun w2 => ?_)
      refine rX9_columns_39 ?_
      simp only [bX9_columns_39, run, Nat.reduceAdd, lg, st1, st2, lkill, lset, fvv, sfv, kind3, cat1, retI, retA, List.length_cons, List.length_nil, true_and, and_true, or_true, true_or, qX9_columns]
      refine sX9_columns_43 kn.1.b.lgs.1 (e_layOut kn hm hi hj fun h3 k3 r3 kp3 _ => ?_)
      simp only [cont, Option.toList, List.cons_append, List.nil_append]
      refine rX9_columns_46 ?_
      simp only [bX9_columns_46, run, Nat.reduceAdd, lg, st1, st2, lkill, lset, fvv, sfv, kind3, cat1, retI, retA, List.length_cons, List.length_nil, true_and, and_true, or_true, true_or, qX9_columns]
      have y := Kv.of64 k3 r3 kp3
      exact hq m i j hm hi hj rfl rfl rfl h3 (fc.tr y.fc) (y.fam w2 kn.1)
theorem e_columnAt {g : Gp} {a0 a1 a2 a3 : Int32} {h : AH} {Q : PQ} {f : Nat → Nat} {gv : Nat → List Nat} {op : Nat} {D : HD} (hf : FamR h f gv op D)
    (hq : ∀ m i j c, m < 12 → i < D.1 → j < D.1 → c < (clo f (cel D f gv m i).1 (cel D f gv m j).1).length → a0 = nI m → a1 = nI i → a2 = nI j → a3 = nI c → ∀ h', Fc h h' → FamR h' f gv op D → Q (.inl (some (vI (nI (16 * ((clo f (cel D f gv m i).1 (cel D f gv m j).1).getD c (0, 0)).1 + ((clo f (cel D f gv m i).1 (cel D f gv m j).1).getD c (0, 0)).2))))) h')
    (hx : (inb a1 D.1 && inb a2 D.1) = false → ∀ n, zN h ≤ n → Q (.inr 1) (bump h n))
    (hx2 : (inb a1 D.1 && inb a2 D.1) = true → inb a0 12 = false → ∀ n, zN h ≤ n → Q (.inr 2) (bump h n))
    (hx3 : ∀ m i j, m < 12 → i < D.1 → j < D.1 → a0 = nI m → a1 = nI i → a2 = nI j → inb a3 (clo f (cel D f gv m i).1 (cel D f gv m j).1).length = false → ∀ h', Fc h h' → FamR h' f gv op D → ∀ n, zN h' ≤ n → Q (.inr 2) (bump h' n)) : Ev g mX9_columnAt [vR 4, vI a0, vI a1, vI a2, vI a3] h Q := by
  have hb := hf.b
  have hD1 := hb.ok.2.1
  refine nX9_columnAt ?_
  refine Ex.wf (fun w => ?_)
  have bad1 : (inb a1 D.1 && inb a2 D.1) = false → Ex g mX9_columnAt 20 [vR 4, vI a0, vI a1, vI a2, vI a3] [] h (0, 0) Q := fun e => by
    refine rX9_columnAt_20 ?_
    simp only [bX9_columnAt_20, run, Nat.reduceAdd, lg, st1, st2, lkill, lset, fvv, sfv, kind3, cat1, retI, retA, List.length_cons, List.length_nil, true_and, and_true, or_true, true_or, qX9_columnAt]
    exact sX9_columnAt_21 (by decide) (e_requireThere (fun q => absurd rfl q) fun _ n hn => hx e n hn)
  refine rX9_columnAt_0 ?_
  simp only [bX9_columnAt_0, run, Nat.reduceAdd, lg, st1, st2, lkill, lset, fvv, sfv, kind3, cat1, retI, retA, List.length_cons, List.length_nil, true_and, and_true, or_true, true_or, qX9_columnAt]
  refine sX9_columnAt_2 hb.lgs.1 (e_isLanguage hb ?_)
  simp only [cont, Option.toList, List.cons_append, List.nil_append]
  cases e1 : inb a1 D.1 with
  | false =>
    refine rX9_columnAt_5 ?_
    simp only [bX9_columnAt_5, run, Nat.reduceAdd, lg, st1, st2, lkill, lset, fvv, sfv, kind3, cat1, retI, retA, List.length_cons, List.length_nil, true_and, and_true, or_true, true_or, qX9_columnAt, show bi false = 0 from rfl, not_true_eq_false, not_false_eq_true, false_implies, true_and, and_true, tti]
    exact bad1 (by rw [e1]; rfl)
  | true =>
    refine rX9_columnAt_5 ?_
    simp only [bX9_columnAt_5, run, Nat.reduceAdd, lg, st1, st2, lkill, lset, fvv, sfv, kind3, cat1, retI, retA, List.length_cons, List.length_nil, true_and, and_true, or_true, true_or, qX9_columnAt, show ¬ bi true = 0 by decide, not_true_eq_false, not_false_eq_true, false_implies, true_and, and_true, tti]
    refine sX9_columnAt_10 hb.lgs.1 (e_isLanguage hb ?_)
    simp only [cont, Option.toList, List.cons_append, List.nil_append]
    cases e2 : inb a2 D.1 with
    | false =>
      refine rX9_columnAt_13 ?_
      simp only [bX9_columnAt_13, run, Nat.reduceAdd, lg, st1, st2, lkill, lset, fvv, sfv, kind3, cat1, retI, retA, List.length_cons, List.length_nil, true_and, and_true, or_true, true_or, qX9_columnAt, show bi false = 0 from rfl, not_true_eq_false, not_false_eq_true, false_implies, true_and, and_true, tti]
      exact bad1 (by rw [e1, e2]; rfl)
    | true =>
      refine rX9_columnAt_13 ?_
      simp only [bX9_columnAt_13, run, Nat.reduceAdd, lg, st1, st2, lkill, lset, fvv, sfv, kind3, cat1, retI, retA, List.length_cons, List.length_nil, true_and, and_true, or_true, true_or, qX9_columnAt, show ¬ bi true = 0 by decide, not_true_eq_false, not_false_eq_true, false_implies, true_and, and_true, tti]
      refine sX9_columnAt_21 (by decide) (e_requireThere (fun _ => ?_) fun q => absurd q (by decide))
      simp only [cont, Option.toList, List.cons_append, List.nil_append]
      refine rX9_columnAt_24 ?_
      simp only [bX9_columnAt_24, run, Nat.reduceAdd, lg, st1, st2, lkill, lset, fvv, sfv, kind3, cat1, retI, retA, List.length_cons, List.length_nil, true_and, and_true, or_true, true_or, qX9_columnAt]
      refine sX9_columnAt_25 (e_isMeaning ?_)
      simp only [cont, Option.toList, List.cons_append, List.nil_append]
      refine sX9_columnAt_28 (by decide) (e_refuseUnless (fun q => ?_) fun q n hn => hx2 (by rw [e1, e2]; rfl) (bi_0.mp q) n hn)
      simp only [cont, Option.toList, List.cons_append, List.nil_append]
      obtain ⟨i, hi, rfl⟩ := inb_t (by omega) e1
      obtain ⟨j, hj, rfl⟩ := inb_t (by omega) e2
      obtain ⟨m, hm, rfl⟩ := inb_t (by decide) (ts_nf fun e => q (bi_0.mpr e))
      have gm := (hb.2.1.2.2 m hm).1
      have oki := cel_ok (f := f) (m := m) hb.ok gm hi
      have okj := cel_ok (f := f) (m := m) hb.ok gm hj
      have l20 := clo_len (f := f) oki.1 okj.1
      refine rX9_columnAt_31 ?_
      simp only [bX9_columnAt_31, run, Nat.reduceAdd, lg, st1, st2, lkill, lset, fvv, sfv, kind3, cat1, retI, retA, List.length_cons, List.length_nil, true_and, and_true, or_true, true_or, qX9_columnAt, hb.1.1.1, hb.1.1.2.2.2.2.1, not_true_eq_false, not_false_eq_true, false_implies, true_and, and_true, tti]
      refine sX9_columnAt_36 hb.2.2.1.2.1 (e_fr1 w hf hm fun h2 fc kn => ?_)
      simp only [cont, Option.toList, List.cons_append, List.nil_append]
      refine Ex.wf (fun w2 => ?_)
      have hx3' := hx3 m i j hm hi hj rfl rfl rfl
      by_cases e0 : a3 < 0
      · refine rX9_columnAt_39 ?_
        simp only [bX9_columnAt_39, run, Nat.reduceAdd, lg, st1, st2, lkill, lset, fvv, sfv, kind3, cat1, retI, retA, List.length_cons, List.length_nil, true_and, and_true, or_true, true_or, qX9_columnAt, e0, not_true_eq_false, not_false_eq_true, false_implies, true_and, and_true, tti]
        refine rX9_columnAt_60 ?_
        simp only [bX9_columnAt_60, run, Nat.reduceAdd, lg, st1, st2, lkill, lset, fvv, sfv, kind3, cat1, retI, retA, List.length_cons, List.length_nil, true_and, and_true, or_true, true_or, qX9_columnAt]
        exact sX9_columnAt_61 (by decide) (e_refuseUnless (fun q => absurd rfl q) fun _ n hn => hx3' (by unfold inb; rw [decide_eq_false (fun q => q e0)]; rfl) h2 fc kn.1 n hn)
      · refine rX9_columnAt_39 ?_
        simp only [bX9_columnAt_39, run, Nat.reduceAdd, lg, st1, st2, lkill, lset, fvv, sfv, kind3, cat1, retI, retA, List.length_cons, List.length_nil, true_and, and_true, or_true, true_or, qX9_columnAt, e0, not_true_eq_false, not_false_eq_true, false_implies, true_and, and_true, tti]
        refine sX9_columnAt_50 kn.1.b.lgs.1 (e_layOut kn hm hi hj fun h3 k3 r3 kp3 cl => ?_)
        simp only [cont, Option.toList, List.cons_append, List.nil_append]
        have y := Kv.of64 k3 r3 kp3
        have fr := y.fam w2 kn.1
        have fc3 := fc.tr y.fc
        by_cases e3 : nI (clo f (cel D f gv m i).1 (cel D f gv m j).1).length ≤ a3
        · refine rX9_columnAt_53 ?_
          simp only [bX9_columnAt_53, run, Nat.reduceAdd, lg, st1, st2, lkill, lset, fvv, sfv, kind3, cat1, retI, retA, List.length_cons, List.length_nil, true_and, and_true, or_true, true_or, qX9_columnAt, e3, not_true_eq_false, not_false_eq_true, false_implies, true_and, and_true, tti]
          refine rX9_columnAt_60 ?_
          simp only [bX9_columnAt_60, run, Nat.reduceAdd, lg, st1, st2, lkill, lset, fvv, sfv, kind3, cat1, retI, retA, List.length_cons, List.length_nil, true_and, and_true, or_true, true_or, qX9_columnAt]
          exact sX9_columnAt_61 (by decide) (e_refuseUnless (fun q => absurd rfl q) fun _ n hn => hx3' (by unfold inb; rw [decide_eq_false (p := ¬ nI _ ≤ a3) (fun q => q e3), Bool.and_false]) h3 fc3 fr n hn)
        · refine rX9_columnAt_53 ?_
          simp only [bX9_columnAt_53, run, Nat.reduceAdd, lg, st1, st2, lkill, lset, fvv, sfv, kind3, cat1, retI, retA, List.length_cons, List.length_nil, true_and, and_true, or_true, true_or, qX9_columnAt, e3, not_true_eq_false, not_false_eq_true, false_implies, true_and, and_true, tti]
          refine sX9_columnAt_61 (by decide) (e_refuseUnless (fun _ => ?_) fun q => absurd q (by decide))
          simp only [cont, Option.toList, List.cons_append, List.nil_append]
          obtain ⟨c, hc, rfl⟩ := inb_t (n := (clo f (cel D f gv m i).1 (cel D f gv m j).1).length) (by omega) (by unfold inb; rw [decide_eq_true e0, decide_eq_true e3]; rfl)
          have al := fr.b.2.2.2.2.2.1
          obtain ⟨le1, le2⟩ := clo_le oki.1 okj.1 hc
          refine rX9_columnAt_64 ?_
          simp only [bX9_columnAt_64, run, Nat.reduceAdd, lg, st1, st2, lkill, lset, fvv, sfv, kind3, cat1, retI, retA, List.length_cons, List.length_nil, true_and, and_true, or_true, true_or, qX9_columnAt, fr.b.1.1.1, fr.b.1.1.2.2.2.2.2.2.2.1, not_true_eq_false, not_false_eq_true, false_implies, true_and, and_true, tti]
          refine sX9_columnAt_72 al.1 (e_upperAt al cl hc l20 ?_)
          simp only [cont, Option.toList, List.cons_append, List.nil_append]
          rw [show (16 : Int32) = nI 16 from rfl]
          refine rX9_columnAt_75 ?_
          simp only [bX9_columnAt_75, run, Nat.reduceAdd, lg, st1, st2, lkill, lset, fvv, sfv, kind3, cat1, retI, retA, List.length_cons, List.length_nil, true_and, and_true, or_true, true_or, qX9_columnAt, fr.b.1.1.1, fr.b.1.1.2.2.2.2.2.2.2.1, not_true_eq_false, not_false_eq_true, false_implies, true_and, and_true, tti]
          refine sX9_columnAt_82 al.1 (e_lowerAt al cl hc l20 ?_)
          simp only [cont, Option.toList, List.cons_append, List.nil_append]
          refine rX9_columnAt_85 ?_
          simp only [bX9_columnAt_85, run, Nat.reduceAdd, lg, st1, st2, lkill, lset, fvv, sfv, kind3, cat1, retI, retA, List.length_cons, List.length_nil, true_and, and_true, or_true, true_or, qX9_columnAt]
          rw [pk_mul, nI_add]
          exact hq m i j c hm hi hj hc rfl rfl rfl rfl h3 fc3 fr
