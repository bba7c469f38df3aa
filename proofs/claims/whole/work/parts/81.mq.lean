/-! ===== the model's questions: one word ===== -/
def MdA (h : AH) (f : Nat → Nat) (gv : Nat → List Nat) (op : Nat) (D : HD) : Prop := ModR h f gv op D ∧ SvR h f gv D
/-- what a look at the model's words changes -/
def Mq (h h' : AH) : Prop := Kp (fun a => a = 99 ∨ (116 ≤ a ∧ a ≤ 121)) h h' ∧ (∀ j, j ≠ 0 → j ≠ 21 → zI h' 99 j = zI h 99 j) ∧ zR h' 99 = zR h 99
theorem Mq.rf {h : AH} : Mq h h := ⟨Kp.rf, fun _ _ _ => rfl, rfl⟩
theorem Mq.tr {h1 h2 h3 : AH} (x : Mq h1 h2) (y : Mq h2 h3) : Mq h1 h3 := ⟨x.1.tr y.1, fun j h0 h1 => (y.2.1 j h0 h1).trans (x.2.1 j h0 h1), y.2.2.trans x.2.2⟩
theorem Mq.ms {h h' : AH} (x : Mq h h') : Ms h h' := ⟨x.1.mono fun a _ q => by omega, x.2.1, x.2.2⟩
theorem Mq.mc {h h' : AH} {k : Nat} {c : Cell3} (w : Wf h) (x : Mq h h') (s : ModS h) (z : MC h k c) : MC h' k c := by
  have s3 := x.1.2.2 113 (s.lt w (by decide)) (by omega)
  have s4 := x.1.2.2 114 (s.lt w (by decide)) (by omega)
  have s5 := x.1.2.2 115 (s.lt w (by decide)) (by omega)
  exact ⟨by rw [s3.2.1]; exact z.1, by rw [s4.1]; exact z.2.1, by rw [s5.1]; exact z.2.2⟩
theorem Mq.sv {h h' : AH} {f : Nat → Nat} {gv : Nat → List Nat} {D : HD} (w : Wf h) (x : Mq h h') (s : ModS h) (z : SvR h f gv D) : SvR h' f gv D := fun l hl m hm => x.mc w s (z l hl m hm)
theorem Mq.a {h h' : AH} {f : Nat → Nat} {gv : Nat → List Nat} {op : Nat} {D : HD} (w : Wf h) (x : Mq h h') (z : MdA h f gv op D) : MdA h' f gv op D := ⟨x.ms.mod w z.1, x.sv w z.1.1 z.2⟩
theorem Mq.thr {h : AH} {v : Int32} : Mq h (sI h 99 0 v) := ⟨Kp.sI (Or.inl rfl), fun j h0 _ => by rw [zI_sI]; exact up1_n _ _ h0, rfl⟩
theorem Mq.col {h : AH} {v : Int32} : Mq h (sI h 99 21 v) := ⟨Kp.sI (Or.inl rfl), fun j _ h0 => by rw [zI_sI]; exact up1_n _ _ h0, rfl⟩
theorem Mq.wI {h : AH} {a k : Nat} {v : Int32} (h1 : 116 ≤ a) (h2 : a ≤ 121) : Mq h (sI h a k v) := ⟨Kp.sI (Or.inr ⟨h1, h2⟩), fun j _ _ => by rw [zI_n (by omega)], rfl⟩
theorem ModR.mdb {h : AH} {f : Nat → Nat} {gv : Nat → List Nat} {op : Nat} {D : HD} (x : ModR h f gv op D) : MdB h f gv D := ⟨x.1, x.2.2.1, x.2.2.2.1, x.2.2.2.2.1, x.ok.v⟩
theorem MdA.wk {h : AH} {f : Nat → Nat} {gv : Nat → List Nat} {op m l : Nat} {D : HD} (x : MdA h f gv op D) (hm : m < 12) (hl : l < D.1) : cOk 12 9 (cel D f gv m l) := cel_ok x.1.ok (x.1.2.2.2.1 m hm).1 hl
theorem e_msolveR {g : Gp} {f : Nat → Nat} {gv : Nat → List Nat} {op : Nat} {D : HD} {h : AH} {Q : PQ} (w : Wf h) (md : ModR h f gv op D)
    (hq : ∀ h', Ms h h' → zI h' 99 = zI h 99 → MdA h' f gv op D → Q (.inl none) h') : Ev g mX10_solve [vR 99] h Q := by
  refine e_msolve md.mdb fun h' kp sv => ?_
  have y := Ms.of w md.1 kp fun a q => by omega
  exact hq h' y (kp.2.2 99 (md.1.lt w (by decide)) (by omega)).1 ⟨y.mod w md, sv⟩
theorem e_isAsked {g : Gp} {x y : Int32} {h : AH} {Q : PQ} {f : Nat → Nat} {gv : Nat → List Nat} {op : Nat} {D : HD} (hf : ModR h f gv op D)
    (hq : ∀ l m, l < D.1 → m < 12 → x = nI l → y = nI m → ∀ h', Ms h h' → MdA h' f gv op D → zI h' 99 0 = 0 → Q (.inl (some (vI 1))) h')
    (hx : (inb x D.1 && inb y 12) = false → ∀ h', Ms h h' → zI h' 99 0 = 1 → Q (.inl (some (vI 0))) h') : Ev g mX10_isAsked [vR 99, vI x, vI y] h Q := by
  refine nX10_isAsked ?_
  refine Ex.wf (fun w => ?_)
  have ms := hf.1
  have hD1 := hf.ok.2.1
  have e4 := hf.2.2.2.2.1.1
  have bad : (inb x D.1 && inb y 12) = false → Ex g mX10_isAsked 20 [vR 99, vI x, vI y] [vR 99] h (0, 0) Q := fun e => by
    refine rX10_isAsked_20 ?_
    simp only [bX10_isAsked_20, run, Nat.reduceAdd, lg, st1, st2, lkill, lset, fvv, sfv, kind3, cat1, retI, retA, List.length_cons, List.length_nil, true_and, and_true, or_true, true_or, qX10_isAsked, ms.1, kI, zI_thr, show ¬ (1 : Int32) = 0 by decide, not_true_eq_false, not_false_eq_true, false_implies, true_and, and_true, tti]
    refine rX10_isAsked_35 ?_
    simp only [bX10_isAsked_35, run, Nat.reduceAdd, lg, st1, st2, lkill, lset, fvv, sfv, kind3, cat1, retI, retA, List.length_cons, List.length_nil, true_and, and_true, or_true, true_or, qX10_isAsked, ms.1, kI, zI_thr, show ¬ (1 : Int32) = 0 by decide, not_true_eq_false, not_false_eq_true, false_implies, true_and, and_true, tti]
    refine rX10_isAsked_46 ?_
    simp only [bX10_isAsked_46, run, Nat.reduceAdd, lg, st1, st2, lkill, lset, fvv, sfv, kind3, cat1, retI, retA, List.length_cons, List.length_nil, true_and, and_true, or_true, true_or, qX10_isAsked]
    exact hx e _ Ms.thr zI_thr
  refine rX10_isAsked_0 ?_
  simp only [bX10_isAsked_0, run, Nat.reduceAdd, lg, st1, st2, lkill, lset, fvv, sfv, kind3, cat1, retI, retA, List.length_cons, List.length_nil, true_and, and_true, or_true, true_or, qX10_isAsked]
  refine sX10_isAsked_3 ms.1 (e_misLanguage ms e4 hD1 ?_)
  simp only [cont, Option.toList, List.cons_append, List.nil_append]
  cases e1 : inb x D.1 with
  | false =>
    refine rX10_isAsked_6 ?_
    simp only [bX10_isAsked_6, run, Nat.reduceAdd, lg, st1, st2, lkill, lset, fvv, sfv, kind3, cat1, retI, retA, List.length_cons, List.length_nil, true_and, and_true, or_true, true_or, qX10_isAsked, show bi false = 0 from rfl, not_true_eq_false, not_false_eq_true, false_implies, true_and, and_true, tti]
    exact bad (by rw [e1]; rfl)
  | true =>
    refine rX10_isAsked_6 ?_
    simp only [bX10_isAsked_6, run, Nat.reduceAdd, lg, st1, st2, lkill, lset, fvv, sfv, kind3, cat1, retI, retA, List.length_cons, List.length_nil, true_and, and_true, or_true, true_or, qX10_isAsked, show ¬ bi true = 0 by decide, not_true_eq_false, not_false_eq_true, false_implies, true_and, and_true, tti]
    refine sX10_isAsked_10 (e_misMeaning ?_)
    simp only [cont, Option.toList, List.cons_append, List.nil_append]
    cases e2 : inb y 12 with
    | false =>
      refine rX10_isAsked_13 ?_
      simp only [bX10_isAsked_13, run, Nat.reduceAdd, lg, st1, st2, lkill, lset, fvv, sfv, kind3, cat1, retI, retA, List.length_cons, List.length_nil, true_and, and_true, or_true, true_or, qX10_isAsked, show bi false = 0 from rfl, not_true_eq_false, not_false_eq_true, false_implies, true_and, and_true, tti]
      exact bad (by rw [e1, e2]; rfl)
    | true =>
      obtain ⟨l, hl, rfl⟩ := inb_t (by omega) e1
      obtain ⟨m, hm, rfl⟩ := inb_t (by decide) e2
      have h1 := hf.thr w (v := 0)
      refine rX10_isAsked_13 ?_
      simp only [bX10_isAsked_13, run, Nat.reduceAdd, lg, st1, st2, lkill, lset, fvv, sfv, kind3, cat1, retI, retA, List.length_cons, List.length_nil, true_and, and_true, or_true, true_or, qX10_isAsked, show ¬ bi true = 0 by decide, ms.1, kI, zI_thr, not_true_eq_false, not_false_eq_true, false_implies, true_and, and_true, tti]
      refine Ex.wf (fun w1 => ?_)
      refine sX10_isAsked_32 ms.1 (e_msolveR w1 h1 fun h2 y2 e99 md => ?_)
      simp only [cont, Option.toList, List.cons_append, List.nil_append]
      have t0 : zI h2 99 0 = 0 := by rw [e99]; exact zI_thr
      refine rX10_isAsked_35 ?_
      simp only [bX10_isAsked_35, run, Nat.reduceAdd, lg, st1, st2, lkill, lset, fvv, sfv, kind3, cat1, retI, retA, List.length_cons, List.length_nil, true_and, and_true, or_true, true_or, qX10_isAsked, md.1.1.1, t0, not_true_eq_false, not_false_eq_true, false_implies, true_and, and_true, tti]
      exact hq l m hl hm rfl rfl h2 (Ms.thr.tr y2) md t0
theorem e_mwordOf {g : Gp} {l m : Nat} {c : Cell3} {h : AH} {Q : PQ} (ms : ModS h) (hl : l < 10) (hm : m < 12) (mc : MC h (l * 12 + m) c) (hq : Q (.inl (some (vL (wM c.1)))) h) : Ev g mX10_wordOf [vR 99, vI (nI l), vI (nI m)] h Q := by
  refine nX10_wordOf ?_
  have kk : (nI (l * 12 + m)).toNatClampNeg = l * 12 + m := nI_clamp (by omega)
  refine rX10_wordOf_0 ?_
  simp only [bX10_wordOf_0, run, Nat.reduceAdd, lg, st1, st2, lkill, lset, fvv, sfv, kind3, cat1, retI, retA, List.length_cons, List.length_nil, true_and, and_true, or_true, true_or, qX10_wordOf, mk_12, ms.1, ms.R17, ms.K113, kk, mc.1, not_true_eq_false, not_false_eq_true, false_implies, true_and, and_true, tti]
  exact ⟨vp_in_nI (by omega) (by omega), hq⟩
theorem e_mhasWord {g : Gp} {l m : Nat} {c : Cell3} {h : AH} {Q : PQ} (ms : ModS h) (hl : l < 10) (hm : m < 12) (wc : Wok c.1) (mc : MC h (l * 12 + m) c) (hq : Q (.inl (some (vI (if c.1 = [] then 0 else 1)))) h) : Ev g mX10_hasWord [vR 99, vI (nI l), vI (nI m)] h Q := by
  refine nX10_hasWord ?_
  refine rX10_hasWord_0 ?_
  simp only [bX10_hasWord_0, run, Nat.reduceAdd, lg, st1, st2, lkill, lset, fvv, sfv, kind3, cat1, retI, retA, List.length_cons, List.length_nil, true_and, and_true, or_true, true_or, qX10_hasWord]
  refine sX10_hasWord_3 ms.1 (e_mwordOf ms hl hm mc ?_)
  simp only [cont, Option.toList, List.cons_append, List.nil_append]
  by_cases e : c.1 = []
  · rw [if_pos e] at hq
    refine rX10_hasWord_6 ?_
    simp only [bX10_hasWord_6, run, Nat.reduceAdd, lg, st1, st2, lkill, lset, fvv, sfv, kind3, cat1, retI, retA, List.length_cons, List.length_nil, true_and, and_true, or_true, true_or, qX10_hasWord, lg_cmp_eq, show wM c.1 = 1 ↔ True from ⟨fun _ => trivial, fun _ => (wM_1 wc).mpr e⟩, not_true_eq_false, not_false_eq_true, false_implies, true_and, and_true, tti]
    refine rX10_hasWord_15 ?_
    simp only [bX10_hasWord_15, run, Nat.reduceAdd, lg, st1, st2, lkill, lset, fvv, sfv, kind3, cat1, retI, retA, List.length_cons, List.length_nil, true_and, and_true, or_true, true_or, qX10_hasWord]
    exact hq
  · rw [if_neg e] at hq
    refine rX10_hasWord_6 ?_
    simp only [bX10_hasWord_6, run, Nat.reduceAdd, lg, st1, st2, lkill, lset, fvv, sfv, kind3, cat1, retI, retA, List.length_cons, List.length_nil, true_and, and_true, or_true, true_or, qX10_hasWord, lg_cmp_eq, show wM c.1 = 1 ↔ False from ⟨fun q => e ((wM_1 wc).mp q), False.elim⟩, not_true_eq_false, not_false_eq_true, false_implies, true_and, and_true, tti]
    exact hq
theorem e_moriginOf {g : Gp} {l m : Nat} {c : Cell3} {h : AH} {Q : PQ} (ms : ModS h) (hl : l < 10) (hm : m < 12) (wc : Wok c.1) (c0 : c.1 = [] → c.2.1 = 0) (mc : MC h (l * 12 + m) c) (hq : Q (.inl (some (vI (bI c.2.1)))) h) : Ev g mX10_originOf [vR 99, vI (nI l), vI (nI m)] h Q := by
  refine nX10_originOf ?_
  have kk : (nI (l * 12 + m)).toNatClampNeg = l * 12 + m := nI_clamp (by omega)
  refine rX10_originOf_0 ?_
  simp only [bX10_originOf_0, run, Nat.reduceAdd, lg, st1, st2, lkill, lset, fvv, sfv, kind3, cat1, retI, retA, List.length_cons, List.length_nil, true_and, and_true, or_true, true_or, qX10_originOf]
  refine sX10_originOf_3 ms.1 (e_mhasWord ms hl hm wc mc ?_)
  simp only [cont, Option.toList, List.cons_append, List.nil_append]
  by_cases e : c.1 = []
  · rw [c0 e, bI_0] at hq
    refine rX10_originOf_6 ?_
    simp only [bX10_originOf_6, run, Nat.reduceAdd, lg, st1, st2, lkill, lset, fvv, sfv, kind3, cat1, retI, retA, List.length_cons, List.length_nil, true_and, and_true, or_true, true_or, qX10_originOf, if_pos e, not_true_eq_false, not_false_eq_true, false_implies, true_and, and_true, tti]
    refine rX10_originOf_23 ?_
    simp only [bX10_originOf_23, run, Nat.reduceAdd, lg, st1, st2, lkill, lset, fvv, sfv, kind3, cat1, retI, retA, List.length_cons, List.length_nil, true_and, and_true, or_true, true_or, qX10_originOf]
    exact hq
  · refine rX10_originOf_6 ?_
    simp only [bX10_originOf_6, run, Nat.reduceAdd, lg, st1, st2, lkill, lset, fvv, sfv, kind3, cat1, retI, retA, List.length_cons, List.length_nil, true_and, and_true, or_true, true_or, qX10_originOf, if_neg e, show ¬ (1 : Int32) = 0 by decide, mk_12, ms.1, ms.R18, ms.K114, kk, mc.2.1, not_true_eq_false, not_false_eq_true, false_implies, true_and, and_true, tti]
    exact ⟨vp_in_nI (by omega) (by omega), hq⟩
theorem e_mchangesOf {g : Gp} {l m : Nat} {c : Cell3} {h : AH} {Q : PQ} (ms : ModS h) (hl : l < 10) (hm : m < 12) (wc : Wok c.1) (c0 : c.1 = [] → c.2.2 = 0) (mc : MC h (l * 12 + m) c) (hq : Q (.inl (some (vI (nI c.2.2)))) h) : Ev g mX10_changesOf [vR 99, vI (nI l), vI (nI m)] h Q := by
  refine nX10_changesOf ?_
  have kk : (nI (l * 12 + m)).toNatClampNeg = l * 12 + m := nI_clamp (by omega)
  refine rX10_changesOf_0 ?_
  simp only [bX10_changesOf_0, run, Nat.reduceAdd, lg, st1, st2, lkill, lset, fvv, sfv, kind3, cat1, retI, retA, List.length_cons, List.length_nil, true_and, and_true, or_true, true_or, qX10_changesOf]
  refine sX10_changesOf_3 ms.1 (e_mhasWord ms hl hm wc mc ?_)
  simp only [cont, Option.toList, List.cons_append, List.nil_append]
  by_cases e : c.1 = []
  · rw [c0 e] at hq
    refine rX10_changesOf_6 ?_
    simp only [bX10_changesOf_6, run, Nat.reduceAdd, lg, st1, st2, lkill, lset, fvv, sfv, kind3, cat1, retI, retA, List.length_cons, List.length_nil, true_and, and_true, or_true, true_or, qX10_changesOf, if_pos e, not_true_eq_false, not_false_eq_true, false_implies, true_and, and_true, tti]
    refine rX10_changesOf_23 ?_
    simp only [bX10_changesOf_23, run, Nat.reduceAdd, lg, st1, st2, lkill, lset, fvv, sfv, kind3, cat1, retI, retA, List.length_cons, List.length_nil, true_and, and_true, or_true, true_or, qX10_changesOf]
    exact hq
  · refine rX10_changesOf_6 ?_
    simp only [bX10_changesOf_6, run, Nat.reduceAdd, lg, st1, st2, lkill, lset, fvv, sfv, kind3, cat1, retI, retA, List.length_cons, List.length_nil, true_and, and_true, or_true, true_or, qX10_changesOf, if_neg e, show ¬ (1 : Int32) = 0 by decide, mk_12, ms.1, ms.R19, ms.K115, kk, mc.2.2, not_true_eq_false, not_false_eq_true, false_implies, true_and, and_true, tti]
    exact ⟨vp_in_nI (by omega) (by omega), hq⟩
theorem e_mlength {g : Gp} {x y : Int32} {h : AH} {Q : PQ} {f : Nat → Nat} {gv : Nat → List Nat} {op : Nat} {D : HD} (hf : ModR h f gv op D)
    (hq : ∀ l m, l < D.1 → m < 12 → x = nI l → y = nI m → ∀ h', Ms h h' → zI h' 99 0 = 0 → Q (.inl (some (vI (nI (cel D f gv m l).1.length)))) h')
    (hx : (inb x D.1 && inb y 12) = false → ∀ h', Ms h h' → zI h' 99 0 = 1 → Q (.inl (some (vI 0))) h') : Ev g mX10_length_ [vR 99, vI x, vI y] h Q := by
  have hD1 := hf.ok.2.1
  refine nX10_length_ ?_
  refine rX10_length__0 ?_
  simp only [bX10_length__0, run, Nat.reduceAdd, lg, st1, st2, lkill, lset, fvv, sfv, kind3, cat1, retI, retA, List.length_cons, List.length_nil, true_and, and_true, or_true, true_or, qX10_length_]
  refine sX10_length__3 hf.1.1 (e_isAsked hf (fun l m hl hm ex ey h2 y2 md t => ?_) fun e h2 y2 t => ?_)
  · simp only [cont, Option.toList, List.cons_append, List.nil_append]
    subst ex
    subst ey
    refine rX10_length__6 ?_
    simp only [bX10_length__6, run, Nat.reduceAdd, lg, st1, st2, lkill, lset, fvv, sfv, kind3, cat1, retI, retA, List.length_cons, List.length_nil, true_and, and_true, or_true, true_or, qX10_length_, show ¬ (1 : Int32) = 0 by decide, not_true_eq_false, not_false_eq_true, false_implies, true_and, and_true, tti]
    refine sX10_length__12 md.1.1.1 (e_mwordOf md.1.1 (by omega) hm (md.2 l hl m hm) ?_)
    simp only [cont, Option.toList, List.cons_append, List.nil_append]
    refine sX10_length__15 (e_mlen (md.wk hm hl).1 ?_)
    simp only [cont, Option.toList, List.cons_append, List.nil_append]
    refine rX10_length__18 ?_
    simp only [bX10_length__18, run, Nat.reduceAdd, lg, st1, st2, lkill, lset, fvv, sfv, kind3, cat1, retI, retA, List.length_cons, List.length_nil, true_and, and_true, or_true, true_or, qX10_length_]
    exact hq l m hl hm rfl rfl h2 y2 t
  · simp only [cont, Option.toList, List.cons_append, List.nil_append]
    refine rX10_length__6 ?_
    simp only [bX10_length__6, run, Nat.reduceAdd, lg, st1, st2, lkill, lset, fvv, sfv, kind3, cat1, retI, retA, List.length_cons, List.length_nil, true_and, and_true, or_true, true_or, qX10_length_, not_true_eq_false, not_false_eq_true, false_implies, true_and, and_true, tti]
    refine rX10_length__21 ?_
    simp only [bX10_length__21, run, Nat.reduceAdd, lg, st1, st2, lkill, lset, fvv, sfv, kind3, cat1, retI, retA, List.length_cons, List.length_nil, true_and, and_true, or_true, true_or, qX10_length_]
    exact hx e h2 y2 t
theorem e_morigin {g : Gp} {x y : Int32} {h : AH} {Q : PQ} {f : Nat → Nat} {gv : Nat → List Nat} {op : Nat} {D : HD} (hf : ModR h f gv op D)
    (hq : ∀ l m, l < D.1 → m < 12 → x = nI l → y = nI m → ∀ h', Ms h h' → zI h' 99 0 = 0 → Q (.inl (some (vI (bI (cel D f gv m l).2.1)))) h')
    (hx : (inb x D.1 && inb y 12) = false → ∀ h', Ms h h' → zI h' 99 0 = 1 → Q (.inl (some (vI 0))) h') : Ev g mX10_origin [vR 99, vI x, vI y] h Q := by
  have hD1 := hf.ok.2.1
  refine nX10_origin ?_
  refine rX10_origin_0 ?_
  simp only [bX10_origin_0, run, Nat.reduceAdd, lg, st1, st2, lkill, lset, fvv, sfv, kind3, cat1, retI, retA, List.length_cons, List.length_nil, true_and, and_true, or_true, true_or, qX10_origin]
  refine sX10_origin_3 hf.1.1 (e_isAsked hf (fun l m hl hm ex ey h2 y2 md t => ?_) fun e h2 y2 t => ?_)
  · simp only [cont, Option.toList, List.cons_append, List.nil_append]
    subst ex
    subst ey
    refine rX10_origin_6 ?_
    simp only [bX10_origin_6, run, Nat.reduceAdd, lg, st1, st2, lkill, lset, fvv, sfv, kind3, cat1, retI, retA, List.length_cons, List.length_nil, true_and, and_true, or_true, true_or, qX10_origin, show ¬ (1 : Int32) = 0 by decide, not_true_eq_false, not_false_eq_true, false_implies, true_and, and_true, tti]
    refine sX10_origin_12 md.1.1.1 (e_moriginOf md.1.1 (by omega) hm (md.wk hm hl).1 (fun q => (cel_0 hf.ok.v hl q).1) (md.2 l hl m hm) ?_)
    simp only [cont, Option.toList, List.cons_append, List.nil_append]
    refine rX10_origin_15 ?_
    simp only [bX10_origin_15, run, Nat.reduceAdd, lg, st1, st2, lkill, lset, fvv, sfv, kind3, cat1, retI, retA, List.length_cons, List.length_nil, true_and, and_true, or_true, true_or, qX10_origin]
    exact hq l m hl hm rfl rfl h2 y2 t
  · simp only [cont, Option.toList, List.cons_append, List.nil_append]
    refine rX10_origin_6 ?_
    simp only [bX10_origin_6, run, Nat.reduceAdd, lg, st1, st2, lkill, lset, fvv, sfv, kind3, cat1, retI, retA, List.length_cons, List.length_nil, true_and, and_true, or_true, true_or, qX10_origin, not_true_eq_false, not_false_eq_true, false_implies, true_and, and_true, tti]
    refine rX10_origin_18 ?_
    simp only [bX10_origin_18, run, Nat.reduceAdd, lg, st1, st2, lkill, lset, fvv, sfv, kind3, cat1, retI, retA, List.length_cons, List.length_nil, true_and, and_true, or_true, true_or, qX10_origin]
    exact hx e h2 y2 t
theorem e_mchangedBy {g : Gp} {x y : Int32} {h : AH} {Q : PQ} {f : Nat → Nat} {gv : Nat → List Nat} {op : Nat} {D : HD} (hf : ModR h f gv op D)
    (hq : ∀ l m, l < D.1 → m < 12 → x = nI l → y = nI m → ∀ h', Ms h h' → zI h' 99 0 = 0 → Q (.inl (some (vI (nI (cel D f gv m l).2.2)))) h')
    (hx : (inb x D.1 && inb y 12) = false → ∀ h', Ms h h' → zI h' 99 0 = 1 → Q (.inl (some (vI 0))) h') : Ev g mX10_changedBy [vR 99, vI x, vI y] h Q := by
  have hD1 := hf.ok.2.1
  refine nX10_changedBy ?_
  refine rX10_changedBy_0 ?_
  simp only [bX10_changedBy_0, run, Nat.reduceAdd, lg, st1, st2, lkill, lset, fvv, sfv, kind3, cat1, retI, retA, List.length_cons, List.length_nil, true_and, and_true, or_true, true_or, qX10_changedBy]
  refine sX10_changedBy_3 hf.1.1 (e_isAsked hf (fun l m hl hm ex ey h2 y2 md t => ?_) fun e h2 y2 t => ?_)
  · simp only [cont, Option.toList, List.cons_append, List.nil_append]
    subst ex
    subst ey
    refine rX10_changedBy_6 ?_
    simp only [bX10_changedBy_6, run, Nat.reduceAdd, lg, st1, st2, lkill, lset, fvv, sfv, kind3, cat1, retI, retA, List.length_cons, List.length_nil, true_and, and_true, or_true, true_or, qX10_changedBy, show ¬ (1 : Int32) = 0 by decide, not_true_eq_false, not_false_eq_true, false_implies, true_and, and_true, tti]
    refine sX10_changedBy_12 md.1.1.1 (e_mchangesOf md.1.1 (by omega) hm (md.wk hm hl).1 (fun q => (cel_0 hf.ok.v hl q).2) (md.2 l hl m hm) ?_)
    simp only [cont, Option.toList, List.cons_append, List.nil_append]
    refine rX10_changedBy_15 ?_
    simp only [bX10_changedBy_15, run, Nat.reduceAdd, lg, st1, st2, lkill, lset, fvv, sfv, kind3, cat1, retI, retA, List.length_cons, List.length_nil, true_and, and_true, or_true, true_or, qX10_changedBy]
    exact hq l m hl hm rfl rfl h2 y2 t
  · simp only [cont, Option.toList, List.cons_append, List.nil_append]
    refine rX10_changedBy_6 ?_
    simp only [bX10_changedBy_6, run, Nat.reduceAdd, lg, st1, st2, lkill, lset, fvv, sfv, kind3, cat1, retI, retA, List.length_cons, List.length_nil, true_and, and_true, or_true, true_or, qX10_changedBy, not_true_eq_false, not_false_eq_true, false_implies, true_and, and_true, tti]
    refine rX10_changedBy_18 ?_
    simp only [bX10_changedBy_18, run, Nat.reduceAdd, lg, st1, st2, lkill, lset, fvv, sfv, kind3, cat1, retI, retA, List.length_cons, List.length_nil, true_and, and_true, or_true, true_or, qX10_changedBy]
    exact hx e h2 y2 t
theorem e_msoundAt {g : Gp} {x y z : Int32} {h : AH} {Q : PQ} {f : Nat → Nat} {gv : Nat → List Nat} {op : Nat} {D : HD} (hf : ModR h f gv op D)
    (hq : ∀ l m, l < D.1 → m < 12 → x = nI l → y = nI m → (∀ p, p < (cel D f gv m l).1.length → z = nI p → ∀ h', Ms h h' → zI h' 99 0 = 0 → Q (.inl (some (vI (nI ((cel D f gv m l).1.getD p 0))))) h') ∧ (inb z (cel D f gv m l).1.length = false → ∀ h', Ms h h' → zI h' 99 0 = 1 → Q (.inl (some (vI 0))) h'))
    (hx : (inb x D.1 && inb y 12) = false → ∀ h', Ms h h' → zI h' 99 0 = 1 → Q (.inl (some (vI 0))) h') : Ev g mX10_soundAt [vR 99, vI x, vI y, vI z] h Q := by
  have hD1 := hf.ok.2.1
  refine nX10_soundAt ?_
  refine rX10_soundAt_0 ?_
  simp only [bX10_soundAt_0, run, Nat.reduceAdd, lg, st1, st2, lkill, lset, fvv, sfv, kind3, cat1, retI, retA, List.length_cons, List.length_nil, true_and, and_true, or_true, true_or, qX10_soundAt]
  refine sX10_soundAt_3 hf.1.1 (e_isAsked hf (fun l m hl hm ex ey h2 y2 md t => ?_) fun e h2 y2 t => ?_)
  · simp only [cont, Option.toList, List.cons_append, List.nil_append]
    subst ex
    subst ey
    obtain ⟨q1, q2⟩ := hq l m hl hm rfl rfl
    have wk := (md.wk hm hl).1
    have w10 := wk.1
    refine rX10_soundAt_6 ?_
    simp only [bX10_soundAt_6, run, Nat.reduceAdd, lg, st1, st2, lkill, lset, fvv, sfv, kind3, cat1, retI, retA, List.length_cons, List.length_nil, true_and, and_true, or_true, true_or, qX10_soundAt, show ¬ (1 : Int32) = 0 by decide, not_true_eq_false, not_false_eq_true, false_implies, true_and, and_true, tti]
    refine rX10_soundAt_11 ?_
    simp only [bX10_soundAt_11, run, Nat.reduceAdd, lg, st1, st2, lkill, lset, fvv, sfv, kind3, cat1, retI, retA, List.length_cons, List.length_nil, true_and, and_true, or_true, true_or, qX10_soundAt]
    refine sX10_soundAt_16 md.1.1.1 (e_mwordOf md.1.1 (by omega) hm (md.2 l hl m hm) ?_)
    simp only [cont, Option.toList, List.cons_append, List.nil_append]
    refine sX10_soundAt_19 (e_mlen wk ?_)
    simp only [cont, Option.toList, List.cons_append, List.nil_append]
    refine rX10_soundAt_22 ?_
    simp only [bX10_soundAt_22, run, Nat.reduceAdd, lg, st1, st2, lkill, lset, fvv, sfv, kind3, cat1, retI, retA, List.length_cons, List.length_nil, true_and, and_true, or_true, true_or, qX10_soundAt]
    refine sX10_soundAt_24 (e_isInZ (by omega) ?_)
    simp only [cont, Option.toList, List.cons_append, List.nil_append]
    cases e1 : inb z (cel D f gv m l).1.length with
    | false =>
      refine rX10_soundAt_27 ?_
      simp only [bX10_soundAt_27, run, Nat.reduceAdd, lg, st1, st2, lkill, lset, fvv, sfv, kind3, cat1, retI, retA, List.length_cons, List.length_nil, true_and, and_true, or_true, true_or, qX10_soundAt, show bi false = 0 from rfl, not_true_eq_false, not_false_eq_true, false_implies, true_and, and_true, tti]
      refine rX10_soundAt_43 ?_
      simp only [bX10_soundAt_43, run, Nat.reduceAdd, lg, st1, st2, lkill, lset, fvv, sfv, kind3, cat1, retI, retA, List.length_cons, List.length_nil, true_and, and_true, or_true, true_or, qX10_soundAt]
      refine sX10_soundAt_45 md.1.1.1 (e_no md.1.1 ?_)
      simp only [cont, Option.toList, List.cons_append, List.nil_append]
      refine rX10_soundAt_48 ?_
      simp only [bX10_soundAt_48, run, Nat.reduceAdd, lg, st1, st2, lkill, lset, fvv, sfv, kind3, cat1, retI, retA, List.length_cons, List.length_nil, true_and, and_true, or_true, true_or, qX10_soundAt]
      exact q2 e1 _ (y2.tr Ms.thr) zI_thr
    | true =>
      obtain ⟨p, hp, rfl⟩ := inb_t (by omega) e1
      refine rX10_soundAt_27 ?_
      simp only [bX10_soundAt_27, run, Nat.reduceAdd, lg, st1, st2, lkill, lset, fvv, sfv, kind3, cat1, retI, retA, List.length_cons, List.length_nil, true_and, and_true, or_true, true_or, qX10_soundAt, show ¬ bi true = 0 by decide, not_true_eq_false, not_false_eq_true, false_implies, true_and, and_true, tti]
      refine sX10_soundAt_33 md.1.1.1 (e_mwordOf md.1.1 (by omega) hm (md.2 l hl m hm) ?_)
      simp only [cont, Option.toList, List.cons_append, List.nil_append]
      refine rX10_soundAt_36 ?_
      simp only [bX10_soundAt_36, run, Nat.reduceAdd, lg, st1, st2, lkill, lset, fvv, sfv, kind3, cat1, retI, retA, List.length_cons, List.length_nil, true_and, and_true, or_true, true_or, qX10_soundAt]
      refine sX10_soundAt_37 (e_mat wk hp ?_)
      simp only [cont, Option.toList, List.cons_append, List.nil_append]
      refine rX10_soundAt_40 ?_
      simp only [bX10_soundAt_40, run, Nat.reduceAdd, lg, st1, st2, lkill, lset, fvv, sfv, kind3, cat1, retI, retA, List.length_cons, List.length_nil, true_and, and_true, or_true, true_or, qX10_soundAt]
      exact q1 p hp rfl h2 y2 t
  · simp only [cont, Option.toList, List.cons_append, List.nil_append]
    refine rX10_soundAt_6 ?_
    simp only [bX10_soundAt_6, run, Nat.reduceAdd, lg, st1, st2, lkill, lset, fvv, sfv, kind3, cat1, retI, retA, List.length_cons, List.length_nil, true_and, and_true, or_true, true_or, qX10_soundAt, not_true_eq_false, not_false_eq_true, false_implies, true_and, and_true, tti]
    exact hx e h2 y2 t
