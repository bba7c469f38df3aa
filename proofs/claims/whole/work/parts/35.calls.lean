/-! ===== the family's own questions ===== -/
/-- all but what is remembered of words and costs -/
def FamB (h : AH) (f : Nat → Nat) (gv : Nat → List Nat) (op : Nat) (D : HD) : Prop :=
  (FamF h ∧ zI h 4 2 = bI op ∧ op ≤ 12 ∧ hdOk D ∧ Sep h D.1) ∧ (Sn h f ∧ GvR h gv) ∧ (HsR h 29 D ∧ LxS h 31 32) ∧ (HsR h 37 (noL D) ∧ LxS h 36 39) ∧ LxS h 43 44 ∧ AlS h ∧ VtS h ∧ KcS h
theorem lwA_kh {h h' : AH} (w : Wf h) (kh : Kh h h') {n : Nat} {p : Nat → Nat} {ls : Nat → List Lw} (hl : LgsR h 25 n p ls) {l : Nat} (hn : l < n) : lwA h' l = lwA h l ∧ zR h' (lwA h l) 1 = zR h (lwA h l) 1 := by
  obtain ⟨e, xs, c, len, lg⟩ := hl
  obtain ⟨d1, -, e2, ys, d3, -⟩ := lg l hn
  have s1 := (kh.sm w c.1 (Or.inr (Or.inl rfl))).2.2.2.2
  have he : zR h 25 1 = e := c.2.2.1
  have hx : zR h e l = xs.getD l 0 ∧ zR h' e = zR h e := by
    rcases c.2.2.2 with ⟨-, q⟩ | ⟨cap, q, -, -, q2⟩
    · rw [q] at len; simp at len; omega
    · exact ⟨q2 l (by omega), (kh.sm w q (Or.inl rfl)).2.2.2.2⟩
  have s3 := (kh.sm w d1 (Or.inr (Or.inr (Or.inr (Or.inl rfl))))).2.2.2.2
  have s4 := (kh.sm w d3.1 (Or.inr (Or.inl rfl))).2.2.2.2
  unfold lwA
  rw [s1, he, hx.2, hx.1, s3]
  exact ⟨rfl, by rw [s4]⟩
theorem Sep.kh {h h' : AH} (w : Wf h) (kh : Kh h h') {n : Nat} {p : Nat → Nat} {ls : Nat → List Lw} {ln : List Ln} (hl : LgsR h 25 n p ls) (hl2 : LnsR h 30 ln) (x : Sep h n) : Sep h' n := by
  obtain ⟨x1, x2, x3⟩ := x
  have k25 : zR h' 25 1 = zR h 25 1 := by
    obtain ⟨e, xs, c, -⟩ := hl
    rw [(kh.sm w c.1 (Or.inr (Or.inl rfl))).2.2.2.2]
  have k30 : zR h' 30 1 = zR h 30 1 := by
    obtain ⟨e, xs, c, -⟩ := hl2
    rw [(kh.sm w c.1 (Or.inr (Or.inl rfl))).2.2.2.2]
  have il : ∀ a, isL h' n a → isL h n a ∧ zR h' a 1 = zR h a 1 := fun a q => by
    rcases q with q | q | ⟨l, q, q2⟩
    · subst q; exact ⟨Or.inl rfl, k25⟩
    · subst q; exact ⟨Or.inr (Or.inl rfl), k30⟩
    · obtain ⟨t1, t2⟩ := lwA_kh w kh hl q
      rw [t1] at q2
      rw [q2]
      exact ⟨Or.inr (Or.inr ⟨l, q, rfl⟩), t2⟩
  refine ⟨fun l k a b e => ?_, fun l a => ?_, fun a b ia ib e ne => ?_⟩
  · rw [(lwA_kh w kh hl a).1, (lwA_kh w kh hl b).1] at e
    exact x1 l k a b e
  · rw [(lwA_kh w kh hl a).1]
    exact x2 l a
  · obtain ⟨i1, i2⟩ := il a ia
    obtain ⟨j1, j2⟩ := il b ib
    rw [i2] at e ne
    rw [j2] at e
    exact x3 a b i1 j1 e ne
theorem FamR.b {h : AH} {f : Nat → Nat} {gv : Nat → List Nat} {op : Nat} {D : HD} (x : FamR h f gv op D) : FamB h f gv op D := by
  obtain ⟨a1, a2, ⟨a3, a4, -⟩, ⟨a5, a6, -⟩, a7, a8, a9, a10, -⟩ := x
  exact ⟨a1, a2, ⟨a3, a4⟩, ⟨a5, a6⟩, a7, a8, a9, a10⟩
theorem FamB.r {h : AH} {f : Nat → Nat} {gv : Nat → List Nat} {op : Nat} {D : HD} (x : FamB h f gv op D) (y : LxR h 31 32 D f gv) (z : LxR h 36 39 (noL D) f gv) (v : KcR h f gv D) : FamR h f gv op D := by
  obtain ⟨a1, a2, ⟨a3, a4⟩, ⟨a5, a6⟩, a7, a8, a9, a10⟩ := x
  exact ⟨a1, a2, ⟨a3, y⟩, ⟨a5, z⟩, a7, a8, a9, a10, v⟩
/-- cells of numbers, and what holds them -/
def dat (a : Nat) : Prop := (32 ≤ a ∧ a ≤ 35) ∨ (39 ≤ a ∧ a ≤ 42) ∨ (44 ≤ a ∧ a ≤ 85) ∨ (87 ≤ a ∧ a ≤ 98)
theorem dat_lx {h : AH} {x b a : Nat} (l : LxS h x b) (h1 : b ≤ a) (h2 : a ≤ b + 3) : ¬ hk (zK h a) := by
  obtain ⟨a1, a2, a3, a4, a5, a6, a7, a8, a9, a10, a11, a12, a13⟩ := l
  have : a = b ∨ a = b + 1 ∨ a = b + 2 ∨ a = b + 3 := by omega
  rcases this with rfl | rfl | rfl | rfl
  · rw [a8]; unfold hk; decide
  · rw [a9]; unfold hk; decide
  · rw [a10]; unfold hk; decide
  · rw [a11]; unfold hk; decide
theorem FamB.nhk {h : AH} {f : Nat → Nat} {gv : Nat → List Nat} {op : Nat} {D : HD} (x : FamB h f gv op D) {a : Nat} (ha : dat a) : ¬ hk (zK h a) := by
  obtain ⟨-, -, ⟨-, a4⟩, ⟨-, a6⟩, a7, a8, a9, a10⟩ := x
  rcases ha with q | q | q | q
  · exact dat_lx a4 q.1 q.2
  · exact dat_lx a6 q.1 q.2
  · by_cases q1 : a ≤ 47
    · exact dat_lx a7 q.1 q1
    · by_cases q2 : a ≤ 64
      · obtain ⟨x1, -, -, -, -, -, -, x8, x9, x10, x11, x12, x13⟩ := a8
        by_cases q3 : 52 ≤ a ∧ a ≤ 62
        · have := (x13 (a - 52) (by omega)).2
          rw [show 52 + (a - 52) = a by omega] at this
          rw [this]; unfold hk; decide
        · have : a = 48 ∨ a = 49 ∨ a = 50 ∨ a = 51 ∨ a = 63 ∨ a = 64 := by omega
          rcases this with rfl | rfl | rfl | rfl | rfl | rfl
          · rw [x1]; unfold hk; decide
          · rw [x8]; unfold hk; decide
          · rw [x9]; unfold hk; decide
          · rw [x10]; unfold hk; decide
          · rw [x11]; unfold hk; decide
          · rw [x12]; unfold hk; decide
      · obtain ⟨v1, v2⟩ := a9
        by_cases q3 : a = 65
        · rw [q3, v1]; unfold hk; decide
        · obtain ⟨-, y2, -, y4⟩ := v2 ((a - 66) / 2) (by omega)
          have : a = 66 + 2 * ((a - 66) / 2) ∨ a = 67 + 2 * ((a - 66) / 2) := by omega
          rcases this with e | e
          · rw [e, y2]; unfold hk; decide
          · rw [e, y4]; unfold hk; decide
  · have := (a10.2 (a - 87) (by omega)).2
    rw [show 87 + (a - 87) = a by omega] at this
    rw [this]; unfold hk; decide
theorem FamB.kp {h h' : AH} {S : Nat → Prop} {f : Nat → Nat} {gv : Nat → List Nat} {op : Nat} {D : HD} (w : Wf h) (k : Kp S h h') (hS : ∀ a, S a → dat a) (hr : ∀ a, 48 ≤ a → a ≤ 85 → zR h' a = zR h a) (x : FamB h f gv op D) : FamB h' f gv op D := by
  have kh : Kh h h' := k.mono fun a _ q => x.nhk (hS a q)
  have nS : ∀ a, ¬ dat a → ¬ S a := fun a q r => q (hS a r)
  obtain ⟨⟨⟨c1, c2⟩, a1, a1', a1'', a1s⟩, ⟨a2, a2'⟩, ⟨a3, a4⟩, ⟨a5, a6⟩, a7, a8, a9, a10⟩ := x
  have sep : Sep h' D.1 := by
    obtain ⟨-, t1, t2⟩ := a3
    rw [c2.2.2.2.2.2.2.2.2.2.1] at t1
    rw [c2.2.2.2.2.2.2.2.2.2.2.1] at t2
    exact a1s.kh w kh t1 t2
  have d4 : ¬ S 4 := nS 4 (by unfold dat; omega)
  have s4 := k.2.2 4 (w.lt c1 (by decide)) d4
  have s29 := (kh.sm w a3.1 (Or.inr (Or.inr (Or.inl rfl)))).2
  have s37 := (kh.sm w a5.1 (Or.inr (Or.inr (Or.inl rfl)))).2
  have l1 := a4.kp w k (nS 31 (by unfold dat; omega))
  have l2 := a6.kp w k (nS 36 (by unfold dat; omega))
  refine ⟨⟨⟨k.kd w c1 (by decide), ?_⟩, by rw [s4.1]; exact a1, a1', a1'', sep⟩, ⟨a2.kp w k fun a q1 q2 => nS a (by unfold dat; omega), a2'.kp w k (nS 24 (by unfold dat; omega))⟩, ⟨a3.kh w kh, l1.1⟩, ⟨a5.kh w kh, l2.1⟩, (a7.kp w k (nS 43 (by unfold dat; omega))).1, ?_, ?_, ?_⟩
  · rw [s4.2.2.2, s29.2.2.2, s37.2.2.2, l1.2, l2.2]
    exact c2
  · obtain ⟨x1, x2, x3, x4, x5, x6, x7, x8, x9, x10, x11, x12, x13⟩ := a8
    refine ⟨k.kd w x1 (by decide), ?_, ?_, ?_, ?_, ?_, ?_, k.kd w x8 (by decide), k.kd w x9 (by decide), k.kd w x10 (by decide), k.kd w x11 (by decide), k.kd w x12 (by decide), fun i hi => ⟨by rw [hr 51 (by omega) (by omega)]; exact (x13 i hi).1, k.kd w (x13 i hi).2 (by decide)⟩⟩
    all_goals (rw [hr 48 (by omega) (by omega)]; assumption)
  · obtain ⟨v1, v2⟩ := a9
    refine ⟨k.kd w v1 (by decide), fun i hi => ?_⟩
    obtain ⟨y1, y2, y3, y4⟩ := v2 i hi
    exact ⟨by rw [hr 65 (by omega) (by omega)]; exact y1, k.kd w y2 (by decide), by rw [hr _ (by omega) (by omega)]; exact y3, k.kd w y4 (by decide)⟩
  · have s86 := k.2.2 86 (w.lt a10.1 (by decide)) (nS 86 (by unfold dat; omega))
    exact ⟨k.kd w a10.1 (by decide), fun m hm => ⟨by rw [s86.2.2.2]; exact (a10.2 m hm).1, k.kd w (a10.2 m hm).2 (by decide)⟩⟩
def bi (b : Bool) : Int32 := if b then 1 else 0
theorem bi_0 {b : Bool} : bi b = 0 ↔ b = false := by cases b <;> decide
def inb (x : Int32) (n : Nat) : Bool := decide (¬ x < 0) && decide (¬ nI n ≤ x)
theorem inb_t {x : Int32} {n : Nat} (hn : n < 2 ^ 31) (h : inb x n = true) : ∃ j, j < n ∧ x = nI j := by
  simp only [inb, Bool.and_eq_true, decide_eq_true_eq] at h
  obtain ⟨j, hj, e⟩ := nI_of h.1
  refine ⟨j, Nat.lt_of_not_le fun q => h.2 ?_, e⟩
  rw [e]
  exact nI_le q hj
theorem inb_n {j n : Nat} (hj : j < 2 ^ 31) (hn : n < 2 ^ 31) : inb (nI j) n = decide (j < n) := by
  unfold inb
  have h1 : ¬ nI j < 0 := nI_pos hj
  have h2 : nI n ≤ nI j ↔ n ≤ j := nI_leI hn hj
  simp only [h1, h2, not_false_eq_true, decide_true, Bool.true_and, Nat.not_le]
theorem e_isSound {g : Gp} {x : Int32} {h : AH} {Q : PQ} (hq : Q (.inl (some (vI (bi (inb x 16))))) h) : Ev g mX9_isSound [vI x] h Q := by
  refine nX9_isSound ?_
  have no : inb x 16 = false → Ex g mX9_isSound 14 [vI x] [] h (0, 0) Q := fun e => by
    rw [e] at hq
    refine rX9_isSound_14 ?_
    simp only [bX9_isSound_14, run, Nat.reduceAdd, lg, st1, st2, lkill, lset, fvv, sfv, kind3, cat1, retI, retA, List.length_cons, List.length_nil, true_and, and_true, or_true, true_or, qX9_isSound]
    exact hq
  refine rX9_isSound_0 ?_
  simp only [bX9_isSound_0, run, Nat.reduceAdd, lg, st1, st2, lkill, lset, fvv, sfv, kind3, cat1, retI, retA, List.length_cons, List.length_nil, true_and, and_true, or_true, true_or, qX9_isSound]
  refine ⟨fun q => no (by simp [inb, q]), fun q => ⟨fun q2 => no ?_, fun q2 => ?_⟩⟩
  · have : nI 16 ≤ x := q2
    simp [inb, this]
  · have q3 : ¬ nI 16 ≤ x := q2
    have : inb x 16 = true := by simp only [inb, q, q3, not_false_eq_true, decide_true, Bool.true_and]
    rw [this] at hq
    exact hq
theorem e_isMeaning {g : Gp} {x : Int32} {h : AH} {Q : PQ} (hq : Q (.inl (some (vI (bi (inb x 12))))) h) : Ev g mX9_isMeaning [vI x] h Q := by
  refine nX9_isMeaning ?_
  have no : inb x 12 = false → Ex g mX9_isMeaning 14 [vI x] [] h (0, 0) Q := fun e => by
    rw [e] at hq
    refine rX9_isMeaning_14 ?_
    simp only [bX9_isMeaning_14, run, Nat.reduceAdd, lg, st1, st2, lkill, lset, fvv, sfv, kind3, cat1, retI, retA, List.length_cons, List.length_nil, true_and, and_true, or_true, true_or, qX9_isMeaning]
    exact hq
  refine rX9_isMeaning_0 ?_
  simp only [bX9_isMeaning_0, run, Nat.reduceAdd, lg, st1, st2, lkill, lset, fvv, sfv, kind3, cat1, retI, retA, List.length_cons, List.length_nil, true_and, and_true, or_true, true_or, qX9_isMeaning]
  refine ⟨fun q => no (by simp [inb, q]), fun q => ⟨fun q2 => no ?_, fun q2 => ?_⟩⟩
  · have : nI 12 ≤ x := q2
    simp [inb, this]
  · have q3 : ¬ nI 12 ≤ x := q2
    have : inb x 12 = true := by simp only [inb, q, q3, not_false_eq_true, decide_true, Bool.true_and]
    rw [this] at hq
    exact hq
theorem FamB.lgs {h : AH} {f : Nat → Nat} {gv : Nat → List Nat} {op : Nat} {D : HD} (x : FamB h f gv op D) : zK h 4 = (1, 9) ∧ zR h 4 3 = 29 ∧ zK h 29 = (1, 2) ∧ zR h 29 0 = 25 ∧ LgsR h 25 D.1 D.2.1 D.2.2.1 := by
  obtain ⟨⟨⟨c1, c2, c3, c4, c5, c6, c7, c8, c9, c10, c11, c12, c13⟩, -⟩, -, ⟨⟨a3, a4, -⟩, -⟩, -⟩ := x
  rw [c11] at a4
  exact ⟨c1, c4, a3, c11, a4⟩
theorem FamB.lns {h : AH} {f : Nat → Nat} {gv : Nat → List Nat} {op : Nat} {D : HD} (x : FamB h f gv op D) : zK h 4 = (1, 9) ∧ zR h 4 3 = 29 ∧ zK h 29 = (1, 2) ∧ zR h 29 1 = 30 ∧ LnsR h 30 D.2.2.2 := by
  obtain ⟨⟨⟨c1, c2, c3, c4, c5, c6, c7, c8, c9, c10, c11, c12, c13⟩, -⟩, -, ⟨⟨a3, -, a4⟩, -⟩, -⟩ := x
  rw [c12] at a4
  exact ⟨c1, c4, a3, c12, a4⟩
theorem FamB.ok {h : AH} {f : Nat → Nat} {gv : Nat → List Nat} {op : Nat} {D : HD} (x : FamB h f gv op D) : hdOk D := x.1.2.2.2.1
theorem e_isLanguage {g : Gp} {x : Int32} {h : AH} {Q : PQ} {f : Nat → Nat} {gv : Nat → List Nat} {op : Nat} {D : HD} (hf : FamB h f gv op D) (hq : Q (.inl (some (vI (bi (inb x D.1))))) h) : Ev g mX9_isLanguage [vR 4, vI x] h Q := by
  obtain ⟨c1, c2, c3, c4, e, xs, c5, c6, c7⟩ := hf.lgs
  refine nX9_isLanguage ?_
  have no : inb x D.1 = false → Ex g mX9_isLanguage 22 [vR 4, vI x] [] h (0, 0) Q := fun e => by
    rw [e] at hq
    refine rX9_isLanguage_22 ?_
    simp only [bX9_isLanguage_22, run, Nat.reduceAdd, lg, st1, st2, lkill, lset, fvv, sfv, kind3, cat1, retI, retA, List.length_cons, List.length_nil, true_and, and_true, or_true, true_or, qX9_isLanguage]
    exact hq
  refine rX9_isLanguage_0 ?_
  simp only [bX9_isLanguage_0, run, Nat.reduceAdd, lg, st1, st2, lkill, lset, fvv, sfv, kind3, cat1, retI, retA, List.length_cons, List.length_nil, true_and, and_true, or_true, true_or, qX9_isLanguage, c1, c2, c3, c4, not_true_eq_false, not_false_eq_true, false_implies, true_and, and_true, tti]
  refine ⟨fun q => no (by simp [inb, q]), fun q => sX9_isLanguage_12 c5.1 (l_size c5 ?_)⟩
  simp only [cont, Option.toList, List.cons_append, List.nil_append]
  refine rX9_isLanguage_15 ?_
  simp only [bX9_isLanguage_15, run, Nat.reduceAdd, lg, st1, st2, lkill, lset, fvv, sfv, kind3, cat1, retI, retA, List.length_cons, List.length_nil, true_and, and_true, or_true, true_or, qX9_isLanguage]
  rw [c6]
  refine ⟨fun q2 => no (by simp [inb, q2]), fun q2 => ?_⟩
  have : inb x D.1 = true := by simp only [inb, q, q2, not_false_eq_true, decide_true, Bool.true_and]
  rw [this] at hq
  exact hq
theorem e_languages {g : Gp} {h : AH} {Q : PQ} {f : Nat → Nat} {gv : Nat → List Nat} {op : Nat} {D : HD} (hf : FamB h f gv op D) (hq : Q (.inl (some (vI (nI D.1)))) h) : Ev g mX9_languages [vR 4] h Q := by
  obtain ⟨c1, c2, c3, c4, e, xs, c5, c6, c7⟩ := hf.lgs
  refine nX9_languages ?_
  refine rX9_languages_0 ?_
  simp only [bX9_languages_0, run, Nat.reduceAdd, lg, st1, st2, lkill, lset, fvv, sfv, kind3, cat1, retI, retA, List.length_cons, List.length_nil, true_and, and_true, or_true, true_or, qX9_languages, c1, c2, c3, c4, not_true_eq_false, not_false_eq_true, false_implies, true_and, and_true, tti]
  refine sX9_languages_7 c5.1 (l_size c5 ?_)
  simp only [cont, Option.toList, List.cons_append, List.nil_append]
  refine rX9_languages_10 ?_
  simp only [bX9_languages_10, run, Nat.reduceAdd, lg, st1, st2, lkill, lset, fvv, sfv, kind3, cat1, retI, retA, List.length_cons, List.length_nil, true_and, and_true, or_true, true_or, qX9_languages]
  rw [c6]
  exact hq
theorem e_loans {g : Gp} {h : AH} {Q : PQ} {f : Nat → Nat} {gv : Nat → List Nat} {op : Nat} {D : HD} (hf : FamB h f gv op D) (hq : Q (.inl (some (vI (nI D.2.2.2.length)))) h) : Ev g mX9_loans [vR 4] h Q := by
  obtain ⟨c1, c2, c3, c4, e, xs, c5, c6, c7⟩ := hf.lns
  refine nX9_loans ?_
  refine rX9_loans_0 ?_
  simp only [bX9_loans_0, run, Nat.reduceAdd, lg, st1, st2, lkill, lset, fvv, sfv, kind3, cat1, retI, retA, List.length_cons, List.length_nil, true_and, and_true, or_true, true_or, qX9_loans, c1, c2, c3, c4, not_true_eq_false, not_false_eq_true, false_implies, true_and, and_true, tti]
  refine sX9_loans_7 c5.1 (l_size c5 ?_)
  simp only [cont, Option.toList, List.cons_append, List.nil_append]
  refine rX9_loans_10 ?_
  simp only [bX9_loans_10, run, Nat.reduceAdd, lg, st1, st2, lkill, lset, fvv, sfv, kind3, cat1, retI, retA, List.length_cons, List.length_nil, true_and, and_true, or_true, true_or, qX9_loans]
  rw [c6]
  exact hq
theorem e_lawsOf {g : Gp} {l : Nat} {h : AH} {Q : PQ} {f : Nat → Nat} {gv : Nat → List Nat} {op : Nat} {D : HD} (hf : FamB h f gv op D) (hl : l < D.1) (hq : ∀ y a e ys, (∃ e2 xs, LsR h 25 e2 xs ∧ xs.getD l 0 = y ∧ xs.length = D.1) → zK h y = (1, 3) → zR h y 1 = a → LsR h a e ys → ys.length = (D.2.2.1 l).length → (∀ i, i < (D.2.2.1 l).length → LwR h (ys.getD i 0) ((D.2.2.1 l).getD i w0)) → Q (.inl (some (vR a))) h) : Ev g mX9_lawsOf [vR 4, vI (nI l)] h Q := by
  obtain ⟨c1, c2, c3, c4, e, xs, c5, c6, c7⟩ := hf.lgs
  obtain ⟨d1, d2, e2, ys, d3, d4, d5⟩ := c7 l hl
  have hD := hf.ok.2.1
  refine nX9_lawsOf ?_
  refine rX9_lawsOf_0 ?_
  simp only [bX9_lawsOf_0, run, Nat.reduceAdd, lg, st1, st2, lkill, lset, fvv, sfv, kind3, cat1, retI, retA, List.length_cons, List.length_nil, true_and, and_true, or_true, true_or, qX9_lawsOf, c1, c2, c3, c4, not_true_eq_false, not_false_eq_true, false_implies, true_and, and_true, tti]
  refine sX9_lawsOf_8 c5.1 (l_get c5 (by omega) ?_)
  simp only [cont, Option.toList, List.cons_append, List.nil_append]
  refine rX9_lawsOf_11 ?_
  simp only [bX9_lawsOf_11, run, Nat.reduceAdd, lg, st1, st2, lkill, lset, fvv, sfv, kind3, cat1, retI, retA, List.length_cons, List.length_nil, true_and, and_true, or_true, true_or, qX9_lawsOf, d1, not_true_eq_false, not_false_eq_true, false_implies, true_and, and_true, tti]
  exact hq _ _ e2 ys ⟨e, xs, c5, rfl, c6⟩ d1 rfl d3 d4 d5
theorem e_isLaw {g : Gp} {l : Nat} {x : Int32} {h : AH} {Q : PQ} {f : Nat → Nat} {gv : Nat → List Nat} {op : Nat} {D : HD} (hf : FamB h f gv op D) (hl : l < D.1) (hq : Q (.inl (some (vI (bi (inb x (D.2.2.1 l).length))))) h) : Ev g mX9_isLaw [vR 4, vI (nI l), vI x] h Q := by
  have c1 := hf.lgs.1
  refine nX9_isLaw ?_
  have no : inb x (D.2.2.1 l).length = false → Ex g mX9_isLaw 20 [vR 4, vI (nI l), vI x] [] h (0, 0) Q := fun e => by
    rw [e] at hq
    refine rX9_isLaw_20 ?_
    simp only [bX9_isLaw_20, run, Nat.reduceAdd, lg, st1, st2, lkill, lset, fvv, sfv, kind3, cat1, retI, retA, List.length_cons, List.length_nil, true_and, and_true, or_true, true_or, qX9_isLaw]
    exact hq
  refine rX9_isLaw_0 ?_
  simp only [bX9_isLaw_0, run, Nat.reduceAdd, lg, st1, st2, lkill, lset, fvv, sfv, kind3, cat1, retI, retA, List.length_cons, List.length_nil, true_and, and_true, or_true, true_or, qX9_isLaw]
  refine ⟨fun q => no (by simp [inb, q]), fun q => sX9_isLaw_7 c1 (e_lawsOf hf hl fun y a e ys _ _ _ ls el _ => ?_)⟩
  simp only [cont, Option.toList, List.cons_append, List.nil_append]
  refine sX9_isLaw_10 ls.1 (l_size ls ?_)
  simp only [cont, Option.toList, List.cons_append, List.nil_append]
  refine rX9_isLaw_13 ?_
  simp only [bX9_isLaw_13, run, Nat.reduceAdd, lg, st1, st2, lkill, lset, fvv, sfv, kind3, cat1, retI, retA, List.length_cons, List.length_nil, true_and, and_true, or_true, true_or, qX9_isLaw]
  rw [el]
  refine ⟨fun q2 => no (by simp [inb, q2]), fun q2 => ?_⟩
  have : inb x (D.2.2.1 l).length = true := by simp only [inb, q, q2, not_false_eq_true, decide_true, Bool.true_and]
  rw [this] at hq
  exact hq
/-- what forgetting a meaning does -/
def Fgt (m : Nat) (h h' : AH) : Prop := zK h' = zK h ∧ zR h' = zR h ∧ Kp (fun a => a = 35 ∨ a = 42 ∨ a = 87 + m) h h' ∧ zI h' 35 = up1 (zI h 35) m 0 ∧ zI h' 42 = up1 (zI h 42) m 0 ∧ ∀ j, j < 100 → zI h' (87 + m) j = -2
theorem e_forgetMeaning {g : Gp} {m : Nat} {h : AH} {Q : PQ} {f : Nat → Nat} {gv : Nat → List Nat} {op : Nat} {D : HD} (hf : FamB h f gv op D) (hm : m < 12) (hq : ∀ h', Fgt m h h' → Q (.inl none) h') : Ev g mX9_forgetMeaning [vR 4, vI (nI m)] h Q := by
  obtain ⟨⟨⟨c1, c2, c3, c4, c5, c6, c7, c8, c9, c10, -⟩, -⟩, -, ⟨-, a4⟩, ⟨-, a6⟩, -, -, -, k1, k2⟩ := hf
  obtain ⟨t1, t2⟩ := k2 m hm
  have km : (nI m).toNatClampNeg = m := nI_clamp (by omega)
  refine nX9_forgetMeaning ?_
  refine Ex.wf (fun w => ?_)
  refine rX9_forgetMeaning_0 ?_
  simp only [bX9_forgetMeaning_0, run, Nat.reduceAdd, lg, st1, st2, lkill, lset, fvv, sfv, kind3, cat1, retI, retA, List.length_cons, List.length_nil, true_and, and_true, or_true, true_or, qX9_forgetMeaning, c1, c5, not_true_eq_false, not_false_eq_true, false_implies, true_and, and_true, tti]
  refine sX9_forgetMeaning_5 a4.1 (e_forget a4 hm ?_)
  simp only [cont, Option.toList, List.cons_append, List.nil_append]
  refine rX9_forgetMeaning_8 ?_
  simp only [bX9_forgetMeaning_8, run, Nat.reduceAdd, lg, st1, st2, lkill, lset, fvv, sfv, kind3, cat1, retI, retA, List.length_cons, List.length_nil, true_and, and_true, or_true, true_or, qX9_forgetMeaning, kL, kI, kD, kR, rL, rI, rD, iL, iD, iR, lI, lD, lR, c1, c6, not_true_eq_false, not_false_eq_true, false_implies, true_and, and_true, tti]
  have kp1 : Kp (fun b => b = 35) h (sI h (32 + 3) m 0) := Kp.sI rfl
  have a6' := (a6.kp w kp1 (by decide)).1
  refine sX9_forgetMeaning_13 a6'.1 (e_forget a6' hm ?_)
  simp only [cont, Option.toList, List.cons_append, List.nil_append]
  refine rX9_forgetMeaning_16 ?_
  simp only [bX9_forgetMeaning_16, run, Nat.reduceAdd, lg, st1, st2, lkill, lset, fvv, sfv, kind3, cat1, retI, retA, List.length_cons, List.length_nil, true_and, and_true, or_true, true_or, qX9_forgetMeaning, kL, kI, kD, kR, rL, rI, rD, iL, iD, iR, lI, lD, lR, c1, c10, k1, km, t1, not_true_eq_false, not_false_eq_true, false_implies, true_and, and_true, tti]
  refine ⟨vp_in_nI (by omega) (by omega), sX9_forgetMeaning_24 (e_fill (n := 100) (by rw [kI, kI]; exact t2) (by omega) (by decide) fun h3 k3 r3 l3 n3 kp3 z3 => ?_)⟩
  simp only [cont, Option.toList, List.cons_append, List.nil_append]
  refine rX9_forgetMeaning_27 ?_
  simp only [bX9_forgetMeaning_27, run, Nat.reduceAdd, lg, st1, st2, lkill, lset, fvv, sfv, kind3, cat1, retI, retA, List.length_cons, List.length_nil, true_and, and_true, or_true, true_or, qX9_forgetMeaning]
  refine hq h3 ⟨k3, r3, ((Kp.sI (S := fun a => a = 35 ∨ a = 42 ∨ a = 87 + m) (h := h) (a := 35) (k := m) (v := 0) (Or.inl rfl)).tr (Kp.sI (a := 42) (k := m) (v := 0) (Or.inr (Or.inl rfl)))).tr (kp3.mono fun a _ e => Or.inr (Or.inr e)), ?_, ?_, z3⟩
  · rw [(kp3.2.2 35 (w.lt a4.2.2.2.2.2.2.2.2.2.2.1 (by decide)) (by omega)).1]
    rw [zI_n (by decide), zI_sI]
  · rw [(kp3.2.2 42 (w.lt a6.2.2.2.2.2.2.2.2.2.2.1 (by decide)) (by omega)).1]
    rw [zI_sI, zI_n (by decide)]
theorem Fgt.b {m : Nat} {h h' : AH} {f : Nat → Nat} {gv : Nat → List Nat} {op : Nat} {D : HD} (w : Wf h) (hm : m < 12) (x : FamB h f gv op D) (y : Fgt m h h') : FamB h' f gv op D := by
  obtain ⟨y1, y2, y3, -⟩ := y
  exact x.kp w y3 (fun a q => by unfold dat; omega) fun a _ _ => by rw [y2]
theorem e_forgetAll {g : Gp} {h : AH} {Q : PQ} {f : Nat → Nat} {gv : Nat → List Nat} {op : Nat} {D : HD} (hf : FamB h f gv op D) (hq : ∀ h', zK h' = zK h → zR h' = zR h → Kp (fun a => a = 35 ∨ a = 42 ∨ 87 ≤ a ∧ a ≤ 98) h h' → FamR h' f gv op D → Q (.inl none) h') : Ev g mX9_forgetAll [vR 4] h Q := by
  refine nX9_forgetAll ?_
  have lp : ∀ d m h2, m + d = 12 → zK h2 = zK h → zR h2 = zR h → Kp (fun a => a = 35 ∨ a = 42 ∨ 87 ≤ a ∧ a ≤ 98) h h2 → FamB h2 f gv op D → (∀ k, k < m → zI h2 35 k = 0 ∧ zI h2 42 k = 0 ∧ ∀ j, j < 100 → zI h2 (87 + k) j = -2) → Ex g mX9_forgetAll 2 [vR 4, vI (nI m)] [] h2 (0, 0) Q := by
    intro d
    induction d with
    | zero =>
      intro m h2 hm ek er kp fb z
      have e : m = 12 := by omega
      subst e
      refine rX9_forgetAll_2 ?_
      simp only [bX9_forgetAll_2, run, Nat.reduceAdd, lg, st1, st2, lkill, lset, fvv, sfv, kind3, cat1, retI, retA, List.length_cons, List.length_nil, true_and, and_true, or_true, true_or, qX9_forgetAll, show ((12 : Int32) ≤ nI 12) = True by decide, not_true_eq_false, not_false_eq_true, false_implies, true_and, and_true, tti]
      refine rX9_forgetAll_19 ?_
      simp only [bX9_forgetAll_19, run, Nat.reduceAdd, lg, st1, st2, lkill, lset, fvv, sfv, kind3, cat1, retI, retA, List.length_cons, List.length_nil, true_and, and_true, or_true, true_or, qX9_forgetAll]
      have hD1 := fb.ok.2.1
      refine hq h2 ek er kp (fb.r ⟨fb.2.2.1.2, fun k hk => Or.inl (z k hk).1⟩ ⟨fb.2.2.2.1.2, fun k hk => Or.inl (z k hk).2.1⟩ fun k hk i j h1 h2 => Or.inl ((z k hk).2.2 _ (by omega)))
    | succ d ih =>
      intro m h2 hm ek er kp fb z
      refine Ex.wf (fun w => ?_)
      refine rX9_forgetAll_2 ?_
      simp only [bX9_forgetAll_2, run, Nat.reduceAdd, lg, st1, st2, lkill, lset, fvv, sfv, kind3, cat1, retI, retA, List.length_cons, List.length_nil, true_and, and_true, or_true, true_or, qX9_forgetAll, show ((12 : Int32) ≤ nI m) ↔ False from ⟨nI_ge (b := 12) (by omega) (by omega), False.elim⟩, not_true_eq_false, not_false_eq_true, false_implies, true_and, and_true, tti]
      refine sX9_forgetAll_10 fb.lgs.1 (e_forgetMeaning fb (by omega) fun h3 fg => ?_)
      simp only [cont, Option.toList, List.cons_append, List.nil_append]
      refine rX9_forgetAll_13 ?_
      simp only [bX9_forgetAll_13, run, Nat.reduceAdd, lg, st1, st2, lkill, lset, fvv, sfv, kind3, cat1, retI, retA, List.length_cons, List.length_nil, true_and, and_true, or_true, true_or, qX9_forgetAll, nI_1]
      have fb3 := fg.b w (by omega) fb
      obtain ⟨y1, y2, y3, y4, y5, y6⟩ := fg
      refine ih (m + 1) h3 (by omega) (y1.trans ek) (y2.trans er) (kp.tr (y3.mono fun a _ q => by omega)) fb3 fun k hk => ?_
      rw [y4, y5]
      by_cases e : k = m
      · rw [e, up1_s, up1_s]; exact ⟨rfl, rfl, y6⟩
      · rw [up1_n _ _ e, up1_n _ _ e]
        obtain ⟨z1, z2, z3⟩ := z k (by omega)
        have kl : zK h2 (87 + k) = (2, 100) := (fb.2.2.2.2.2.2.2.2 k (by omega)).2
        exact ⟨z1, z2, fun j hj => by rw [(y3.2.2 (87 + k) (w.lt kl (by decide)) (by omega)).1]; exact z3 j hj⟩
  refine rX9_forgetAll_0 ?_
  simp only [bX9_forgetAll_0, run, Nat.reduceAdd, lg, st1, st2, lkill, lset, fvv, sfv, kind3, cat1, retI, retA, List.length_cons, List.length_nil, true_and, and_true, or_true, true_or, qX9_forgetAll]
  exact lp 12 0 h rfl rfl rfl Kp.rf hf fun k hk => absurd hk (Nat.not_lt_zero _)
