/-! ===== each operation (by program) ===== -/
theorem o_0 {g : Gp} {Q : PQ} {h : AH} {u : Nat × Nat} {i : Nat} {f : Nat → Nat} {gv : Nat → List Nat} {op : Nat} {D : HD} (hg : gl g ≤ 3072) (hi : i + 5 < gl g) (hf : FamR h f gv op D) (hm : ModR h f gv op D) (kd : Kd h) (hu : u.1 + 30 ≤ 20000 ∧ u.2 + 1700 ≤ 900000) (K : ∀ h' (st : St), FamS h' st → ModT h' st → Kd h' → Ex g mL_law_ 2336 (LW9 i) [] h' (u.1 + 30, u.2 + 1700) Q) : Ex g mL_law_ 192 (LW9 i) [] h u Q := by
  refine Ex.wf (fun w => ?_)
  refine x_aload_n (k4 := 1) (i := 1) rfl rfl (by decide +kernel) ?_
  refine x_arg (pc := 193) (k := 1) (n := 1) hg (by omega) rfl rfl (by decide) (by decide +kernel) (by decide +kernel) (by decide +kernel) (by decide +kernel) (by decide +kernel) ?_
  rw [show 193 + 6 = 199 from rfl]
  refine x_arg (pc := 199) (k := 2) (n := 2) hg (by omega) rfl rfl (by decide) (by decide +kernel) (by decide +kernel) (by decide +kernel) (by decide +kernel) (by decide +kernel) ?_
  rw [show 199 + 6 = 205 from rfl]
  refine x_aload_n (k4 := 3) (i := 3) rfl rfl (by decide +kernel) ?_
  refine sL_law__206 (by omega) (c_setSound w hf hm kd fun h1 fr mr kd1 hz => ?_)
  simp only [cont, Option.toList, List.cons_append, List.nil_append]
  refine Ex.wf (fun w1 => ?_)
  refine rL_law__209 ?_
  simp only [bL_law__209, run, Nat.reduceAdd, lg, st1, st2, lkill, lset, fvv, sfv, kind3, cat1, retI, retA, List.length_cons, List.length_nil, true_and, and_true, or_true, true_or, qL_law_]
  refine x_arg (pc := 212) (k := 1) (n := 1) hg (by omega) rfl rfl (by decide) (by decide +kernel) (by decide +kernel) (by decide +kernel) (by decide +kernel) (by decide +kernel) ?_
  rw [show 212 + 6 = 218 from rfl]
  refine x_arg (pc := 218) (k := 2) (n := 2) hg (by omega) rfl rfl (by decide) (by decide +kernel) (by decide +kernel) (by decide +kernel) (by decide +kernel) (by decide +kernel) ?_
  rw [show 218 + 6 = 224 from rfl]
  refine sL_law__224 (by dsimp only; omega) mr.1.1 (m_setSound w1 fr mr kd1 hz fun h2 fr2 mr2 kd2 e0 hz2 => ?_)
  simp only [cont, Option.toList, List.cons_append, List.nil_append]
  exact t_setSound mr2.1 kd2 e0 hz2 (by dsimp only; omega) (Ex.wid (by dsimp only; omega) (by dsimp only; omega) hu.1 hu.2 (K h2 _ fr2 mr2 kd2))
theorem o_1 {g : Gp} {Q : PQ} {h : AH} {u : Nat × Nat} {i : Nat} {f : Nat → Nat} {gv : Nat → List Nat} {op : Nat} {D : HD} (hg : gl g ≤ 3072) (hi : i + 5 < gl g) (hf : FamR h f gv op D) (hm : ModR h f gv op D) (kd : Kd h) (hu : u.1 + 30 ≤ 20000 ∧ u.2 + 1700 ≤ 900000) (K : ∀ h' (st : St), FamS h' st → ModT h' st → Kd h' → Ex g mL_law_ 2336 (LW9 i) [] h' (u.1 + 30, u.2 + 1700) Q) : Ex g mL_law_ 260 (LW9 i) [] h u Q := by
  refine Ex.wf (fun w => ?_)
  refine x_aload_n (k4 := 1) (i := 1) rfl rfl (by decide +kernel) ?_
  refine x_arg (pc := 261) (k := 1) (n := 1) hg (by omega) rfl rfl (by decide) (by decide +kernel) (by decide +kernel) (by decide +kernel) (by decide +kernel) (by decide +kernel) ?_
  rw [show 261 + 6 = 267 from rfl]
  refine x_aload_n (k4 := 3) (i := 3) rfl rfl (by decide +kernel) ?_
  refine sL_law__268 (by omega) (c_word w hf hm kd fun h1 fr mr kd1 hz => ?_)
  simp only [cont, Option.toList, List.cons_append, List.nil_append]
  refine Ex.wf (fun w1 => ?_)
  refine rL_law__271 ?_
  simp only [bL_law__271, run, Nat.reduceAdd, lg, st1, st2, lkill, lset, fvv, sfv, kind3, cat1, retI, retA, List.length_cons, List.length_nil, true_and, and_true, or_true, true_or, qL_law_]
  refine x_arg (pc := 274) (k := 1) (n := 1) hg (by omega) rfl rfl (by decide) (by decide +kernel) (by decide +kernel) (by decide +kernel) (by decide +kernel) (by decide +kernel) ?_
  rw [show 274 + 6 = 280 from rfl]
  refine sL_law__280 (by dsimp only; omega) mr.1.1 (m_word w1 fr mr kd1 hz fun h2 fr2 mr2 kd2 e0 hz2 => ?_)
  simp only [cont, Option.toList, List.cons_append, List.nil_append]
  exact t_word mr2.1 kd2 e0 hz2 (by dsimp only; omega) (Ex.wid (by dsimp only; omega) (by dsimp only; omega) hu.1 hu.2 (K h2 _ fr2 mr2 kd2))
theorem o_2 {g : Gp} {Q : PQ} {h : AH} {u : Nat × Nat} {i : Nat} {f : Nat → Nat} {gv : Nat → List Nat} {op : Nat} {D : HD} (hg : gl g ≤ 3072) (hi : i + 5 < gl g) (hf : FamR h f gv op D) (hm : ModR h f gv op D) (kd : Kd h) (hu : u.1 + 30 ≤ 20000 ∧ u.2 + 1700 ≤ 900000) (K : ∀ h' (st : St), FamS h' st → ModT h' st → Kd h' → Ex g mL_law_ 2336 (LW9 i) [] h' (u.1 + 30, u.2 + 1700) Q) : Ex g mL_law_ 316 (LW9 i) [] h u Q := by
  refine Ex.wf (fun w => ?_)
  refine x_aload_n (k4 := 1) (i := 1) rfl rfl (by decide +kernel) ?_
  refine x_arg (pc := 317) (k := 1) (n := 1) hg (by omega) rfl rfl (by decide) (by decide +kernel) (by decide +kernel) (by decide +kernel) (by decide +kernel) (by decide +kernel) ?_
  rw [show 317 + 6 = 323 from rfl]
  refine x_aload_n (k4 := 3) (i := 3) rfl rfl (by decide +kernel) ?_
  refine sL_law__324 (by omega) (c_spell w hf hm kd fun h1 fr mr kd1 hz => ?_)
  simp only [cont, Option.toList, List.cons_append, List.nil_append]
  refine Ex.wf (fun w1 => ?_)
  refine rL_law__327 ?_
  simp only [bL_law__327, run, Nat.reduceAdd, lg, st1, st2, lkill, lset, fvv, sfv, kind3, cat1, retI, retA, List.length_cons, List.length_nil, true_and, and_true, or_true, true_or, qL_law_]
  refine x_arg (pc := 330) (k := 1) (n := 1) hg (by omega) rfl rfl (by decide) (by decide +kernel) (by decide +kernel) (by decide +kernel) (by decide +kernel) (by decide +kernel) ?_
  rw [show 330 + 6 = 336 from rfl]
  refine sL_law__336 (by dsimp only; omega) mr.1.1 (m_spell w1 fr mr kd1 hz fun h2 fr2 mr2 kd2 e0 hz2 => ?_)
  simp only [cont, Option.toList, List.cons_append, List.nil_append]
  exact t_spell mr2.1 kd2 e0 hz2 (by dsimp only; omega) (Ex.wid (by dsimp only; omega) (by dsimp only; omega) hu.1 hu.2 (K h2 _ fr2 mr2 kd2))
theorem o_3 {g : Gp} {Q : PQ} {h : AH} {u : Nat × Nat} {i : Nat} {f : Nat → Nat} {gv : Nat → List Nat} {op : Nat} {D : HD} (hg : gl g ≤ 3072) (hi : i + 5 < gl g) (hf : FamR h f gv op D) (hm : ModR h f gv op D) (kd : Kd h) (hu : u.1 + 30 ≤ 20000 ∧ u.2 + 1700 ≤ 900000) (K : ∀ h' (st : St), FamS h' st → ModT h' st → Kd h' → Ex g mL_law_ 2336 (LW9 i) [] h' (u.1 + 30, u.2 + 1700) Q) : Ex g mL_law_ 372 (LW9 i) [] h u Q := by
  refine Ex.wf (fun w => ?_)
  refine x_aload_n (k4 := 1) (i := 1) rfl rfl (by decide +kernel) ?_
  refine x_arg (pc := 373) (k := 1) (n := 1) hg (by omega) rfl rfl (by decide) (by decide +kernel) (by decide +kernel) (by decide +kernel) (by decide +kernel) (by decide +kernel) ?_
  rw [show 373 + 6 = 379 from rfl]
  refine x_aload_n (k4 := 3) (i := 3) rfl rfl (by decide +kernel) ?_
  refine sL_law__380 (by omega) (c_language w hf hm kd fun h1 fr mr kd1 hz => ?_)
  simp only [cont, Option.toList, List.cons_append, List.nil_append]
  refine Ex.wf (fun w1 => ?_)
  refine rL_law__383 ?_
  simp only [bL_law__383, run, Nat.reduceAdd, lg, st1, st2, lkill, lset, fvv, sfv, kind3, cat1, retI, retA, List.length_cons, List.length_nil, true_and, and_true, or_true, true_or, qL_law_]
  refine x_arg (pc := 386) (k := 1) (n := 1) hg (by omega) rfl rfl (by decide) (by decide +kernel) (by decide +kernel) (by decide +kernel) (by decide +kernel) (by decide +kernel) ?_
  rw [show 386 + 6 = 392 from rfl]
  refine sL_law__392 (by dsimp only; omega) mr.1.1 (m_language w1 fr mr kd1 hz fun h2 fr2 mr2 kd2 e0 hz2 => ?_)
  simp only [cont, Option.toList, List.cons_append, List.nil_append]
  exact t_language mr2.1 kd2 e0 hz2 (by dsimp only; omega) (Ex.wid (by dsimp only; omega) (by dsimp only; omega) hu.1 hu.2 (K h2 _ fr2 mr2 kd2))
theorem o_4 {g : Gp} {Q : PQ} {h : AH} {u : Nat × Nat} {i : Nat} {f : Nat → Nat} {gv : Nat → List Nat} {op : Nat} {D : HD} (hg : gl g ≤ 3072) (hi : i + 5 < gl g) (hf : FamR h f gv op D) (hm : ModR h f gv op D) (kd : Kd h) (hu : u.1 + 30 ≤ 20000 ∧ u.2 + 1700 ≤ 900000) (K : ∀ h' (st : St), FamS h' st → ModT h' st → Kd h' → Ex g mL_law_ 2336 (LW9 i) [] h' (u.1 + 30, u.2 + 1700) Q) : Ex g mL_law_ 428 (LW9 i) [] h u Q := by
  refine Ex.wf (fun w => ?_)
  refine x_aload_n (k4 := 1) (i := 1) rfl rfl (by decide +kernel) ?_
  refine x_arg (pc := 429) (k := 1) (n := 1) hg (by omega) rfl rfl (by decide) (by decide +kernel) (by decide +kernel) (by decide +kernel) (by decide +kernel) (by decide +kernel) ?_
  rw [show 429 + 6 = 435 from rfl]
  refine x_arg (pc := 435) (k := 2) (n := 2) hg (by omega) rfl rfl (by decide) (by decide +kernel) (by decide +kernel) (by decide +kernel) (by decide +kernel) (by decide +kernel) ?_
  rw [show 435 + 6 = 441 from rfl]
  refine x_arg (pc := 441) (k := 3) (n := 3) hg (by omega) rfl rfl (by decide) (by decide +kernel) (by decide +kernel) (by decide +kernel) (by decide +kernel) (by decide +kernel) ?_
  rw [show 441 + 6 = 447 from rfl]
  refine x_arg (pc := 447) (k := 4) (n := 4) hg (by omega) rfl rfl (by decide) (by decide +kernel) (by decide +kernel) (by decide +kernel) (by decide +kernel) (by decide +kernel) ?_
  rw [show 447 + 6 = 453 from rfl]
  refine x_arg (pc := 453) (k := 5) (n := 5) hg (by omega) rfl rfl (by decide) (by decide +kernel) (by decide +kernel) (by decide +kernel) (by decide +kernel) (by decide +kernel) ?_
  rw [show 453 + 6 = 459 from rfl]
  refine x_aload_n (k4 := 3) (i := 3) rfl rfl (by decide +kernel) ?_
  refine sL_law__460 (by omega) (c_law w hf hm kd fun h1 fr mr kd1 hz => ?_)
  simp only [cont, Option.toList, List.cons_append, List.nil_append]
  refine Ex.wf (fun w1 => ?_)
  refine rL_law__463 ?_
  simp only [bL_law__463, run, Nat.reduceAdd, lg, st1, st2, lkill, lset, fvv, sfv, kind3, cat1, retI, retA, List.length_cons, List.length_nil, true_and, and_true, or_true, true_or, qL_law_]
  refine x_arg (pc := 466) (k := 1) (n := 1) hg (by omega) rfl rfl (by decide) (by decide +kernel) (by decide +kernel) (by decide +kernel) (by decide +kernel) (by decide +kernel) ?_
  rw [show 466 + 6 = 472 from rfl]
  refine x_arg (pc := 472) (k := 2) (n := 2) hg (by omega) rfl rfl (by decide) (by decide +kernel) (by decide +kernel) (by decide +kernel) (by decide +kernel) (by decide +kernel) ?_
  rw [show 472 + 6 = 478 from rfl]
  refine x_arg (pc := 478) (k := 3) (n := 3) hg (by omega) rfl rfl (by decide) (by decide +kernel) (by decide +kernel) (by decide +kernel) (by decide +kernel) (by decide +kernel) ?_
  rw [show 478 + 6 = 484 from rfl]
  refine x_arg (pc := 484) (k := 4) (n := 4) hg (by omega) rfl rfl (by decide) (by decide +kernel) (by decide +kernel) (by decide +kernel) (by decide +kernel) (by decide +kernel) ?_
  rw [show 484 + 6 = 490 from rfl]
  refine x_arg (pc := 490) (k := 5) (n := 5) hg (by omega) rfl rfl (by decide) (by decide +kernel) (by decide +kernel) (by decide +kernel) (by decide +kernel) (by decide +kernel) ?_
  rw [show 490 + 6 = 496 from rfl]
  refine sL_law__496 (by dsimp only; omega) mr.1.1 (m_law w1 fr mr kd1 hz fun h2 fr2 mr2 kd2 e0 hz2 => ?_)
  simp only [cont, Option.toList, List.cons_append, List.nil_append]
  exact t_law mr2.1 kd2 e0 hz2 (by dsimp only; omega) (Ex.wid (by dsimp only; omega) (by dsimp only; omega) hu.1 hu.2 (K h2 _ fr2 mr2 kd2))
theorem o_5 {g : Gp} {Q : PQ} {h : AH} {u : Nat × Nat} {i : Nat} {f : Nat → Nat} {gv : Nat → List Nat} {op : Nat} {D : HD} (hg : gl g ≤ 3072) (hi : i + 5 < gl g) (hf : FamR h f gv op D) (hm : ModR h f gv op D) (kd : Kd h) (hu : u.1 + 30 ≤ 20000 ∧ u.2 + 1700 ≤ 900000) (K : ∀ h' (st : St), FamS h' st → ModT h' st → Kd h' → Ex g mL_law_ 2336 (LW9 i) [] h' (u.1 + 30, u.2 + 1700) Q) : Ex g mL_law_ 532 (LW9 i) [] h u Q := by
  refine Ex.wf (fun w => ?_)
  refine x_aload_n (k4 := 1) (i := 1) rfl rfl (by decide +kernel) ?_
  refine x_arg (pc := 533) (k := 1) (n := 1) hg (by omega) rfl rfl (by decide) (by decide +kernel) (by decide +kernel) (by decide +kernel) (by decide +kernel) (by decide +kernel) ?_
  rw [show 533 + 6 = 539 from rfl]
  refine x_aload_n (k4 := 3) (i := 3) rfl rfl (by decide +kernel) ?_
  refine sL_law__540 (by omega) (c_unlaw w hf hm kd fun h1 fr mr kd1 hz => ?_)
  simp only [cont, Option.toList, List.cons_append, List.nil_append]
  refine Ex.wf (fun w1 => ?_)
  refine rL_law__543 ?_
  simp only [bL_law__543, run, Nat.reduceAdd, lg, st1, st2, lkill, lset, fvv, sfv, kind3, cat1, retI, retA, List.length_cons, List.length_nil, true_and, and_true, or_true, true_or, qL_law_]
  refine x_arg (pc := 546) (k := 1) (n := 1) hg (by omega) rfl rfl (by decide) (by decide +kernel) (by decide +kernel) (by decide +kernel) (by decide +kernel) (by decide +kernel) ?_
  rw [show 546 + 6 = 552 from rfl]
  refine sL_law__552 (by dsimp only; omega) mr.1.1 (m_unlaw w1 fr mr kd1 hz fun h2 fr2 mr2 kd2 e0 hz2 => ?_)
  simp only [cont, Option.toList, List.cons_append, List.nil_append]
  exact t_unlaw mr2.1 kd2 e0 hz2 (by dsimp only; omega) (Ex.wid (by dsimp only; omega) (by dsimp only; omega) hu.1 hu.2 (K h2 _ fr2 mr2 kd2))
theorem o_6 {g : Gp} {Q : PQ} {h : AH} {u : Nat × Nat} {i : Nat} {f : Nat → Nat} {gv : Nat → List Nat} {op : Nat} {D : HD} (hg : gl g ≤ 3072) (hi : i + 5 < gl g) (hf : FamR h f gv op D) (hm : ModR h f gv op D) (kd : Kd h) (hu : u.1 + 30 ≤ 20000 ∧ u.2 + 1700 ≤ 900000) (K : ∀ h' (st : St), FamS h' st → ModT h' st → Kd h' → Ex g mL_law_ 2336 (LW9 i) [] h' (u.1 + 30, u.2 + 1700) Q) : Ex g mL_law_ 588 (LW9 i) [] h u Q := by
  refine Ex.wf (fun w => ?_)
  refine x_aload_n (k4 := 1) (i := 1) rfl rfl (by decide +kernel) ?_
  refine x_arg (pc := 589) (k := 1) (n := 1) hg (by omega) rfl rfl (by decide) (by decide +kernel) (by decide +kernel) (by decide +kernel) (by decide +kernel) (by decide +kernel) ?_
  rw [show 589 + 6 = 595 from rfl]
  refine x_arg (pc := 595) (k := 2) (n := 2) hg (by omega) rfl rfl (by decide) (by decide +kernel) (by decide +kernel) (by decide +kernel) (by decide +kernel) (by decide +kernel) ?_
  rw [show 595 + 6 = 601 from rfl]
  refine x_arg (pc := 601) (k := 3) (n := 3) hg (by omega) rfl rfl (by decide) (by decide +kernel) (by decide +kernel) (by decide +kernel) (by decide +kernel) (by decide +kernel) ?_
  rw [show 601 + 6 = 607 from rfl]
  refine x_arg (pc := 607) (k := 4) (n := 4) hg (by omega) rfl rfl (by decide) (by decide +kernel) (by decide +kernel) (by decide +kernel) (by decide +kernel) (by decide +kernel) ?_
  rw [show 607 + 6 = 613 from rfl]
  refine x_aload_n (k4 := 3) (i := 3) rfl rfl (by decide +kernel) ?_
  refine sL_law__614 (by omega) (c_loan w hf hm kd fun h1 fr mr kd1 hz => ?_)
  simp only [cont, Option.toList, List.cons_append, List.nil_append]
  refine Ex.wf (fun w1 => ?_)
  refine rL_law__617 ?_
  simp only [bL_law__617, run, Nat.reduceAdd, lg, st1, st2, lkill, lset, fvv, sfv, kind3, cat1, retI, retA, List.length_cons, List.length_nil, true_and, and_true, or_true, true_or, qL_law_]
  refine x_arg (pc := 620) (k := 1) (n := 1) hg (by omega) rfl rfl (by decide) (by decide +kernel) (by decide +kernel) (by decide +kernel) (by decide +kernel) (by decide +kernel) ?_
  rw [show 620 + 6 = 626 from rfl]
  refine x_arg (pc := 626) (k := 2) (n := 2) hg (by omega) rfl rfl (by decide) (by decide +kernel) (by decide +kernel) (by decide +kernel) (by decide +kernel) (by decide +kernel) ?_
  rw [show 626 + 6 = 632 from rfl]
  refine x_arg (pc := 632) (k := 3) (n := 3) hg (by omega) rfl rfl (by decide) (by decide +kernel) (by decide +kernel) (by decide +kernel) (by decide +kernel) (by decide +kernel) ?_
  rw [show 632 + 6 = 638 from rfl]
  refine x_arg (pc := 638) (k := 4) (n := 4) hg (by omega) rfl rfl (by decide) (by decide +kernel) (by decide +kernel) (by decide +kernel) (by decide +kernel) (by decide +kernel) ?_
  rw [show 638 + 6 = 644 from rfl]
  refine sL_law__644 (by dsimp only; omega) mr.1.1 (m_loan w1 fr mr kd1 hz fun h2 fr2 mr2 kd2 e0 hz2 => ?_)
  simp only [cont, Option.toList, List.cons_append, List.nil_append]
  exact t_loan mr2.1 kd2 e0 hz2 (by dsimp only; omega) (Ex.wid (by dsimp only; omega) (by dsimp only; omega) hu.1 hu.2 (K h2 _ fr2 mr2 kd2))
theorem o_7 {g : Gp} {Q : PQ} {h : AH} {u : Nat × Nat} {i : Nat} {f : Nat → Nat} {gv : Nat → List Nat} {op : Nat} {D : HD} (hg : gl g ≤ 3072) (hi : i + 5 < gl g) (hf : FamR h f gv op D) (hm : ModR h f gv op D) (kd : Kd h) (hu : u.1 + 30 ≤ 20000 ∧ u.2 + 1700 ≤ 900000) (K : ∀ h' (st : St), FamS h' st → ModT h' st → Kd h' → Ex g mL_law_ 2336 (LW9 i) [] h' (u.1 + 30, u.2 + 1700) Q) : Ex g mL_law_ 680 (LW9 i) [] h u Q := by
  refine Ex.wf (fun w => ?_)
  refine x_aload_n (k4 := 1) (i := 1) rfl rfl (by decide +kernel) ?_
  refine sL_law__681 (by simp only [Nat.add_zero]; omega) hf.1.1.1 (e_languages hf.b ?_)
  simp only [cont, Option.toList, List.cons_append, List.nil_append]
  refine x_aload_n (k4 := 2) (i := 2) rfl rfl (by decide +kernel) ?_
  refine sL_law__685 (by simp only [Nat.add_zero]; omega) hm.1.1 (e_mlanguages hm fun h1 ms e => ?_)
  simp only [cont, Option.toList, List.cons_append, List.nil_append]
  refine rL_law__688 ?_
  simp only [bL_law__688, run, Nat.reduceAdd, lg, st1, st2, lkill, lset, fvv, sfv, kind3, cat1, retI, retA, List.length_cons, List.length_nil, true_and, and_true, or_true, true_or, qL_law_, not_true_eq_false, not_false_eq_true, false_implies, true_and, and_true, tti, not_true_eq_false, false_implies]
  exact Ex.wid (by simp only [Nat.add_zero]; omega) (by simp only [Nat.add_zero]; omega) hu.1 hu.2 (K h1 (f, gv, op, D) (ms.c.fam w hm.1 hf) (ms.mod w hm) ⟨ms.c.kd w kd.1 (by decide), ms.c.kd w kd.2 (by decide)⟩)
theorem o_8 {g : Gp} {Q : PQ} {h : AH} {u : Nat × Nat} {i : Nat} {f : Nat → Nat} {gv : Nat → List Nat} {op : Nat} {D : HD} (hg : gl g ≤ 3072) (hi : i + 5 < gl g) (hf : FamR h f gv op D) (hm : ModR h f gv op D) (kd : Kd h) (hu : u.1 + 30 ≤ 20000 ∧ u.2 + 1700 ≤ 900000) (K : ∀ h' (st : St), FamS h' st → ModT h' st → Kd h' → Ex g mL_law_ 2336 (LW9 i) [] h' (u.1 + 30, u.2 + 1700) Q) : Ex g mL_law_ 693 (LW9 i) [] h u Q := by
  refine Ex.wf (fun w => ?_)
  refine x_aload_n (k4 := 1) (i := 1) rfl rfl (by decide +kernel) ?_
  refine x_arg (pc := 694) (k := 1) (n := 1) hg (by omega) rfl rfl (by decide) (by decide +kernel) (by decide +kernel) (by decide +kernel) (by decide +kernel) (by decide +kernel) ?_
  rw [show 694 + 6 = 700 from rfl]
  refine x_aload_n (k4 := 3) (i := 3) rfl rfl (by decide +kernel) ?_
  refine sL_law__701 (by omega) (c_laws w hf hm kd fun h1 fr mr kd1 hz => ?_)
  simp only [cont, Option.toList, List.cons_append, List.nil_append]
  refine Ex.wf (fun w1 => ?_)
  refine rL_law__704 ?_
  simp only [bL_law__704, run, Nat.reduceAdd, lg, st1, st2, lkill, lset, fvv, sfv, kind3, cat1, retI, retA, List.length_cons, List.length_nil, true_and, and_true, or_true, true_or, qL_law_]
  refine x_arg (pc := 707) (k := 1) (n := 1) hg (by omega) rfl rfl (by decide) (by decide +kernel) (by decide +kernel) (by decide +kernel) (by decide +kernel) (by decide +kernel) ?_
  rw [show 707 + 6 = 713 from rfl]
  refine sL_law__713 (by dsimp only; omega) mr.1.1 (m_laws w1 fr mr kd1 hz fun h2 fr2 mr2 kd2 e0 hz2 => ?_)
  simp only [cont, Option.toList, List.cons_append, List.nil_append]
  exact t_laws mr2.1 kd2 e0 hz2 (by dsimp only; omega) (Ex.wid (by dsimp only; omega) (by dsimp only; omega) hu.1 hu.2 (K h2 _ fr2 mr2 kd2))
theorem o_9 {g : Gp} {Q : PQ} {h : AH} {u : Nat × Nat} {i : Nat} {f : Nat → Nat} {gv : Nat → List Nat} {op : Nat} {D : HD} (hg : gl g ≤ 3072) (hi : i + 5 < gl g) (hf : FamR h f gv op D) (hm : ModR h f gv op D) (kd : Kd h) (hu : u.1 + 30 ≤ 20000 ∧ u.2 + 1700 ≤ 900000) (K : ∀ h' (st : St), FamS h' st → ModT h' st → Kd h' → Ex g mL_law_ 2336 (LW9 i) [] h' (u.1 + 30, u.2 + 1700) Q) : Ex g mL_law_ 749 (LW9 i) [] h u Q := by
  refine Ex.wf (fun w => ?_)
  refine x_aload_n (k4 := 1) (i := 1) rfl rfl (by decide +kernel) ?_
  refine sL_law__750 (by simp only [Nat.add_zero]; omega) hf.1.1.1 (e_loans hf.b ?_)
  simp only [cont, Option.toList, List.cons_append, List.nil_append]
  refine x_aload_n (k4 := 2) (i := 2) rfl rfl (by decide +kernel) ?_
  refine sL_law__754 (by simp only [Nat.add_zero]; omega) hm.1.1 (e_mloans hm fun h1 ms e => ?_)
  simp only [cont, Option.toList, List.cons_append, List.nil_append]
  refine rL_law__757 ?_
  simp only [bL_law__757, run, Nat.reduceAdd, lg, st1, st2, lkill, lset, fvv, sfv, kind3, cat1, retI, retA, List.length_cons, List.length_nil, true_and, and_true, or_true, true_or, qL_law_, not_true_eq_false, not_false_eq_true, false_implies, true_and, and_true, tti, not_true_eq_false, false_implies]
  exact Ex.wid (by simp only [Nat.add_zero]; omega) (by simp only [Nat.add_zero]; omega) hu.1 hu.2 (K h1 (f, gv, op, D) (ms.c.fam w hm.1 hf) (ms.mod w hm) ⟨ms.c.kd w kd.1 (by decide), ms.c.kd w kd.2 (by decide)⟩)
theorem o_10 {g : Gp} {Q : PQ} {h : AH} {u : Nat × Nat} {i : Nat} {f : Nat → Nat} {gv : Nat → List Nat} {op : Nat} {D : HD} (hg : gl g ≤ 3072) (hi : i + 5 < gl g) (hf : FamR h f gv op D) (hm : ModR h f gv op D) (kd : Kd h) (hu : u.1 + 30 ≤ 20000 ∧ u.2 + 1700 ≤ 900000) (K : ∀ h' (st : St), FamS h' st → ModT h' st → Kd h' → Ex g mL_law_ 2336 (LW9 i) [] h' (u.1 + 30, u.2 + 1700) Q) : Ex g mL_law_ 762 (LW9 i) [] h u Q := by
  refine Ex.wf (fun w => ?_)
  refine x_aload_n (k4 := 1) (i := 1) rfl rfl (by decide +kernel) ?_
  refine x_arg (pc := 763) (k := 1) (n := 1) hg (by omega) rfl rfl (by decide) (by decide +kernel) (by decide +kernel) (by decide +kernel) (by decide +kernel) (by decide +kernel) ?_
  rw [show 763 + 6 = 769 from rfl]
  refine x_arg (pc := 769) (k := 2) (n := 2) hg (by omega) rfl rfl (by decide) (by decide +kernel) (by decide +kernel) (by decide +kernel) (by decide +kernel) (by decide +kernel) ?_
  rw [show 769 + 6 = 775 from rfl]
  refine x_aload_n (k4 := 3) (i := 3) rfl rfl (by decide +kernel) ?_
  refine sL_law__776 (by omega) (c_common w hf hm kd fun h1 fr mr kd1 hz => ?_)
  simp only [cont, Option.toList, List.cons_append, List.nil_append]
  refine Ex.wf (fun w1 => ?_)
  refine rL_law__779 ?_
  simp only [bL_law__779, run, Nat.reduceAdd, lg, st1, st2, lkill, lset, fvv, sfv, kind3, cat1, retI, retA, List.length_cons, List.length_nil, true_and, and_true, or_true, true_or, qL_law_]
  refine x_arg (pc := 782) (k := 1) (n := 1) hg (by omega) rfl rfl (by decide) (by decide +kernel) (by decide +kernel) (by decide +kernel) (by decide +kernel) (by decide +kernel) ?_
  rw [show 782 + 6 = 788 from rfl]
  refine x_arg (pc := 788) (k := 2) (n := 2) hg (by omega) rfl rfl (by decide) (by decide +kernel) (by decide +kernel) (by decide +kernel) (by decide +kernel) (by decide +kernel) ?_
  rw [show 788 + 6 = 794 from rfl]
  refine sL_law__794 (by dsimp only; omega) mr.1.1 (m_common w1 fr mr kd1 hz fun h2 fr2 mr2 kd2 e0 hz2 => ?_)
  simp only [cont, Option.toList, List.cons_append, List.nil_append]
  exact t_common mr2.1 kd2 e0 hz2 (by dsimp only; omega) (Ex.wid (by dsimp only; omega) (by dsimp only; omega) hu.1 hu.2 (K h2 _ fr2 mr2 kd2))
theorem o_11 {g : Gp} {Q : PQ} {h : AH} {u : Nat × Nat} {i : Nat} {f : Nat → Nat} {gv : Nat → List Nat} {op : Nat} {D : HD} (hg : gl g ≤ 3072) (hi : i + 5 < gl g) (hf : FamR h f gv op D) (hm : ModR h f gv op D) (kd : Kd h) (hu : u.1 + 30 ≤ 20000 ∧ u.2 + 1700 ≤ 900000) (K : ∀ h' (st : St), FamS h' st → ModT h' st → Kd h' → Ex g mL_law_ 2336 (LW9 i) [] h' (u.1 + 30, u.2 + 1700) Q) : Ex g mL_law_ 830 (LW9 i) [] h u Q := by
  refine Ex.wf (fun w => ?_)
  refine x_aload_n (k4 := 1) (i := 1) rfl rfl (by decide +kernel) ?_
  refine x_arg (pc := 831) (k := 1) (n := 1) hg (by omega) rfl rfl (by decide) (by decide +kernel) (by decide +kernel) (by decide +kernel) (by decide +kernel) (by decide +kernel) ?_
  rw [show 831 + 6 = 837 from rfl]
  refine x_arg (pc := 837) (k := 2) (n := 2) hg (by omega) rfl rfl (by decide) (by decide +kernel) (by decide +kernel) (by decide +kernel) (by decide +kernel) (by decide +kernel) ?_
  rw [show 837 + 6 = 843 from rfl]
  refine x_aload_n (k4 := 3) (i := 3) rfl rfl (by decide +kernel) ?_
  refine sL_law__844 (by omega) (c_length w hf hm kd fun h1 fr mr kd1 hz => ?_)
  simp only [cont, Option.toList, List.cons_append, List.nil_append]
  refine Ex.wf (fun w1 => ?_)
  refine rL_law__847 ?_
  simp only [bL_law__847, run, Nat.reduceAdd, lg, st1, st2, lkill, lset, fvv, sfv, kind3, cat1, retI, retA, List.length_cons, List.length_nil, true_and, and_true, or_true, true_or, qL_law_]
  refine x_arg (pc := 850) (k := 1) (n := 1) hg (by omega) rfl rfl (by decide) (by decide +kernel) (by decide +kernel) (by decide +kernel) (by decide +kernel) (by decide +kernel) ?_
  rw [show 850 + 6 = 856 from rfl]
  refine x_arg (pc := 856) (k := 2) (n := 2) hg (by omega) rfl rfl (by decide) (by decide +kernel) (by decide +kernel) (by decide +kernel) (by decide +kernel) (by decide +kernel) ?_
  rw [show 856 + 6 = 862 from rfl]
  refine sL_law__862 (by dsimp only; omega) mr.1.1 (m_length w1 fr mr kd1 hz fun h2 fr2 mr2 kd2 e0 hz2 => ?_)
  simp only [cont, Option.toList, List.cons_append, List.nil_append]
  exact t_length mr2.1 kd2 e0 hz2 (by dsimp only; omega) (Ex.wid (by dsimp only; omega) (by dsimp only; omega) hu.1 hu.2 (K h2 _ fr2 mr2 kd2))
theorem o_12 {g : Gp} {Q : PQ} {h : AH} {u : Nat × Nat} {i : Nat} {f : Nat → Nat} {gv : Nat → List Nat} {op : Nat} {D : HD} (hg : gl g ≤ 3072) (hi : i + 5 < gl g) (hf : FamR h f gv op D) (hm : ModR h f gv op D) (kd : Kd h) (hu : u.1 + 30 ≤ 20000 ∧ u.2 + 1700 ≤ 900000) (K : ∀ h' (st : St), FamS h' st → ModT h' st → Kd h' → Ex g mL_law_ 2336 (LW9 i) [] h' (u.1 + 30, u.2 + 1700) Q) : Ex g mL_law_ 898 (LW9 i) [] h u Q := by
  refine Ex.wf (fun w => ?_)
  refine x_aload_n (k4 := 1) (i := 1) rfl rfl (by decide +kernel) ?_
  refine x_arg (pc := 899) (k := 1) (n := 1) hg (by omega) rfl rfl (by decide) (by decide +kernel) (by decide +kernel) (by decide +kernel) (by decide +kernel) (by decide +kernel) ?_
  rw [show 899 + 6 = 905 from rfl]
  refine x_arg (pc := 905) (k := 2) (n := 2) hg (by omega) rfl rfl (by decide) (by decide +kernel) (by decide +kernel) (by decide +kernel) (by decide +kernel) (by decide +kernel) ?_
  rw [show 905 + 6 = 911 from rfl]
  refine x_arg (pc := 911) (k := 3) (n := 3) hg (by omega) rfl rfl (by decide) (by decide +kernel) (by decide +kernel) (by decide +kernel) (by decide +kernel) (by decide +kernel) ?_
  rw [show 911 + 6 = 917 from rfl]
  refine x_aload_n (k4 := 3) (i := 3) rfl rfl (by decide +kernel) ?_
  refine sL_law__918 (by omega) (c_soundAt w hf hm kd fun h1 fr mr kd1 hz => ?_)
  simp only [cont, Option.toList, List.cons_append, List.nil_append]
  refine Ex.wf (fun w1 => ?_)
  refine rL_law__921 ?_
  simp only [bL_law__921, run, Nat.reduceAdd, lg, st1, st2, lkill, lset, fvv, sfv, kind3, cat1, retI, retA, List.length_cons, List.length_nil, true_and, and_true, or_true, true_or, qL_law_]
  refine x_arg (pc := 924) (k := 1) (n := 1) hg (by omega) rfl rfl (by decide) (by decide +kernel) (by decide +kernel) (by decide +kernel) (by decide +kernel) (by decide +kernel) ?_
  rw [show 924 + 6 = 930 from rfl]
  refine x_arg (pc := 930) (k := 2) (n := 2) hg (by omega) rfl rfl (by decide) (by decide +kernel) (by decide +kernel) (by decide +kernel) (by decide +kernel) (by decide +kernel) ?_
  rw [show 930 + 6 = 936 from rfl]
  refine x_arg (pc := 936) (k := 3) (n := 3) hg (by omega) rfl rfl (by decide) (by decide +kernel) (by decide +kernel) (by decide +kernel) (by decide +kernel) (by decide +kernel) ?_
  rw [show 936 + 6 = 942 from rfl]
  refine sL_law__942 (by dsimp only; omega) mr.1.1 (m_soundAt w1 fr mr kd1 hz fun h2 fr2 mr2 kd2 e0 hz2 => ?_)
  simp only [cont, Option.toList, List.cons_append, List.nil_append]
  exact t_soundAt mr2.1 kd2 e0 hz2 (by dsimp only; omega) (Ex.wid (by dsimp only; omega) (by dsimp only; omega) hu.1 hu.2 (K h2 _ fr2 mr2 kd2))
theorem o_13 {g : Gp} {Q : PQ} {h : AH} {u : Nat × Nat} {i : Nat} {f : Nat → Nat} {gv : Nat → List Nat} {op : Nat} {D : HD} (hg : gl g ≤ 3072) (hi : i + 5 < gl g) (hf : FamR h f gv op D) (hm : ModR h f gv op D) (kd : Kd h) (hu : u.1 + 30 ≤ 20000 ∧ u.2 + 1700 ≤ 900000) (K : ∀ h' (st : St), FamS h' st → ModT h' st → Kd h' → Ex g mL_law_ 2336 (LW9 i) [] h' (u.1 + 30, u.2 + 1700) Q) : Ex g mL_law_ 978 (LW9 i) [] h u Q := by
  refine Ex.wf (fun w => ?_)
  refine x_aload_n (k4 := 1) (i := 1) rfl rfl (by decide +kernel) ?_
  refine x_arg (pc := 979) (k := 1) (n := 1) hg (by omega) rfl rfl (by decide) (by decide +kernel) (by decide +kernel) (by decide +kernel) (by decide +kernel) (by decide +kernel) ?_
  rw [show 979 + 6 = 985 from rfl]
  refine x_arg (pc := 985) (k := 2) (n := 2) hg (by omega) rfl rfl (by decide) (by decide +kernel) (by decide +kernel) (by decide +kernel) (by decide +kernel) (by decide +kernel) ?_
  rw [show 985 + 6 = 991 from rfl]
  refine x_aload_n (k4 := 3) (i := 3) rfl rfl (by decide +kernel) ?_
  refine sL_law__992 (by omega) (c_origin w hf hm kd fun h1 fr mr kd1 hz => ?_)
  simp only [cont, Option.toList, List.cons_append, List.nil_append]
  refine Ex.wf (fun w1 => ?_)
  refine rL_law__995 ?_
  simp only [bL_law__995, run, Nat.reduceAdd, lg, st1, st2, lkill, lset, fvv, sfv, kind3, cat1, retI, retA, List.length_cons, List.length_nil, true_and, and_true, or_true, true_or, qL_law_]
  refine x_arg (pc := 998) (k := 1) (n := 1) hg (by omega) rfl rfl (by decide) (by decide +kernel) (by decide +kernel) (by decide +kernel) (by decide +kernel) (by decide +kernel) ?_
  rw [show 998 + 6 = 1004 from rfl]
  refine x_arg (pc := 1004) (k := 2) (n := 2) hg (by omega) rfl rfl (by decide) (by decide +kernel) (by decide +kernel) (by decide +kernel) (by decide +kernel) (by decide +kernel) ?_
  rw [show 1004 + 6 = 1010 from rfl]
  refine sL_law__1010 (by dsimp only; omega) mr.1.1 (m_origin w1 fr mr kd1 hz fun h2 fr2 mr2 kd2 e0 hz2 => ?_)
  simp only [cont, Option.toList, List.cons_append, List.nil_append]
  exact t_origin mr2.1 kd2 e0 hz2 (by dsimp only; omega) (Ex.wid (by dsimp only; omega) (by dsimp only; omega) hu.1 hu.2 (K h2 _ fr2 mr2 kd2))
theorem o_14 {g : Gp} {Q : PQ} {h : AH} {u : Nat × Nat} {i : Nat} {f : Nat → Nat} {gv : Nat → List Nat} {op : Nat} {D : HD} (hg : gl g ≤ 3072) (hi : i + 5 < gl g) (hf : FamR h f gv op D) (hm : ModR h f gv op D) (kd : Kd h) (hu : u.1 + 30 ≤ 20000 ∧ u.2 + 1700 ≤ 900000) (K : ∀ h' (st : St), FamS h' st → ModT h' st → Kd h' → Ex g mL_law_ 2336 (LW9 i) [] h' (u.1 + 30, u.2 + 1700) Q) : Ex g mL_law_ 1046 (LW9 i) [] h u Q := by
  refine Ex.wf (fun w => ?_)
  refine x_aload_n (k4 := 1) (i := 1) rfl rfl (by decide +kernel) ?_
  refine x_arg (pc := 1047) (k := 1) (n := 1) hg (by omega) rfl rfl (by decide) (by decide +kernel) (by decide +kernel) (by decide +kernel) (by decide +kernel) (by decide +kernel) ?_
  rw [show 1047 + 6 = 1053 from rfl]
  refine x_arg (pc := 1053) (k := 2) (n := 2) hg (by omega) rfl rfl (by decide) (by decide +kernel) (by decide +kernel) (by decide +kernel) (by decide +kernel) (by decide +kernel) ?_
  rw [show 1053 + 6 = 1059 from rfl]
  refine x_aload_n (k4 := 3) (i := 3) rfl rfl (by decide +kernel) ?_
  refine sL_law__1060 (by omega) (c_changedBy w hf hm kd fun h1 fr mr kd1 hz => ?_)
  simp only [cont, Option.toList, List.cons_append, List.nil_append]
  refine Ex.wf (fun w1 => ?_)
  refine rL_law__1063 ?_
  simp only [bL_law__1063, run, Nat.reduceAdd, lg, st1, st2, lkill, lset, fvv, sfv, kind3, cat1, retI, retA, List.length_cons, List.length_nil, true_and, and_true, or_true, true_or, qL_law_]
  refine x_arg (pc := 1066) (k := 1) (n := 1) hg (by omega) rfl rfl (by decide) (by decide +kernel) (by decide +kernel) (by decide +kernel) (by decide +kernel) (by decide +kernel) ?_
  rw [show 1066 + 6 = 1072 from rfl]
  refine x_arg (pc := 1072) (k := 2) (n := 2) hg (by omega) rfl rfl (by decide) (by decide +kernel) (by decide +kernel) (by decide +kernel) (by decide +kernel) (by decide +kernel) ?_
  rw [show 1072 + 6 = 1078 from rfl]
  refine sL_law__1078 (by dsimp only; omega) mr.1.1 (m_changedBy w1 fr mr kd1 hz fun h2 fr2 mr2 kd2 e0 hz2 => ?_)
  simp only [cont, Option.toList, List.cons_append, List.nil_append]
  exact t_changedBy mr2.1 kd2 e0 hz2 (by dsimp only; omega) (Ex.wid (by dsimp only; omega) (by dsimp only; omega) hu.1 hu.2 (K h2 _ fr2 mr2 kd2))
theorem o_15 {g : Gp} {Q : PQ} {h : AH} {u : Nat × Nat} {i : Nat} {f : Nat → Nat} {gv : Nat → List Nat} {op : Nat} {D : HD} (hg : gl g ≤ 3072) (hi : i + 5 < gl g) (hf : FamR h f gv op D) (hm : ModR h f gv op D) (kd : Kd h) (hu : u.1 + 30 ≤ 20000 ∧ u.2 + 1700 ≤ 900000) (K : ∀ h' (st : St), FamS h' st → ModT h' st → Kd h' → Ex g mL_law_ 2336 (LW9 i) [] h' (u.1 + 30, u.2 + 1700) Q) : Ex g mL_law_ 1114 (LW9 i) [] h u Q := by
  refine Ex.wf (fun w => ?_)
  refine x_aload_n (k4 := 1) (i := 1) rfl rfl (by decide +kernel) ?_
  refine x_arg (pc := 1115) (k := 1) (n := 1) hg (by omega) rfl rfl (by decide) (by decide +kernel) (by decide +kernel) (by decide +kernel) (by decide +kernel) (by decide +kernel) ?_
  rw [show 1115 + 6 = 1121 from rfl]
  refine x_aload_n (k4 := 3) (i := 3) rfl rfl (by decide +kernel) ?_
  refine sL_law__1122 (by omega) (c_wealth w hf hm kd fun h1 fr mr kd1 hz => ?_)
  simp only [cont, Option.toList, List.cons_append, List.nil_append]
  refine Ex.wf (fun w1 => ?_)
  refine rL_law__1125 ?_
  simp only [bL_law__1125, run, Nat.reduceAdd, lg, st1, st2, lkill, lset, fvv, sfv, kind3, cat1, retI, retA, List.length_cons, List.length_nil, true_and, and_true, or_true, true_or, qL_law_]
  refine x_arg (pc := 1128) (k := 1) (n := 1) hg (by omega) rfl rfl (by decide) (by decide +kernel) (by decide +kernel) (by decide +kernel) (by decide +kernel) (by decide +kernel) ?_
  rw [show 1128 + 6 = 1134 from rfl]
  refine sL_law__1134 (by dsimp only; omega) mr.1.1 (m_wealth w1 fr mr kd1 hz fun h2 fr2 mr2 kd2 e0 hz2 => ?_)
  simp only [cont, Option.toList, List.cons_append, List.nil_append]
  exact t_wealth mr2.1 kd2 e0 hz2 (by dsimp only; omega) (Ex.wid (by dsimp only; omega) (by dsimp only; omega) hu.1 hu.2 (K h2 _ fr2 mr2 kd2))
theorem o_16 {g : Gp} {Q : PQ} {h : AH} {u : Nat × Nat} {i : Nat} {f : Nat → Nat} {gv : Nat → List Nat} {op : Nat} {D : HD} (hg : gl g ≤ 3072) (hi : i + 5 < gl g) (hf : FamR h f gv op D) (hm : ModR h f gv op D) (kd : Kd h) (hu : u.1 + 30 ≤ 20000 ∧ u.2 + 1700 ≤ 900000) (K : ∀ h' (st : St), FamS h' st → ModT h' st → Kd h' → Ex g mL_law_ 2336 (LW9 i) [] h' (u.1 + 30, u.2 + 1700) Q) : Ex g mL_law_ 1170 (LW9 i) [] h u Q := by
  refine Ex.wf (fun w => ?_)
  refine x_aload_n (k4 := 1) (i := 1) rfl rfl (by decide +kernel) ?_
  refine x_arg (pc := 1171) (k := 1) (n := 1) hg (by omega) rfl rfl (by decide) (by decide +kernel) (by decide +kernel) (by decide +kernel) (by decide +kernel) (by decide +kernel) ?_
  rw [show 1171 + 6 = 1177 from rfl]
  refine x_aload_n (k4 := 3) (i := 3) rfl rfl (by decide +kernel) ?_
  refine sL_law__1178 (by omega) (c_alike w hf hm kd fun h1 fr mr kd1 hz => ?_)
  simp only [cont, Option.toList, List.cons_append, List.nil_append]
  refine Ex.wf (fun w1 => ?_)
  refine rL_law__1181 ?_
  simp only [bL_law__1181, run, Nat.reduceAdd, lg, st1, st2, lkill, lset, fvv, sfv, kind3, cat1, retI, retA, List.length_cons, List.length_nil, true_and, and_true, or_true, true_or, qL_law_]
  refine x_arg (pc := 1184) (k := 1) (n := 1) hg (by omega) rfl rfl (by decide) (by decide +kernel) (by decide +kernel) (by decide +kernel) (by decide +kernel) (by decide +kernel) ?_
  rw [show 1184 + 6 = 1190 from rfl]
  refine sL_law__1190 (by dsimp only; omega) mr.1.1 (m_alike w1 fr mr kd1 hz fun h2 fr2 mr2 kd2 e0 hz2 => ?_)
  simp only [cont, Option.toList, List.cons_append, List.nil_append]
  exact t_alike mr2.1 kd2 e0 hz2 (by dsimp only; omega) (Ex.wid (by dsimp only; omega) (by dsimp only; omega) hu.1 hu.2 (K h2 _ fr2 mr2 kd2))
theorem o_17 {g : Gp} {Q : PQ} {h : AH} {u : Nat × Nat} {i : Nat} {f : Nat → Nat} {gv : Nat → List Nat} {op : Nat} {D : HD} (hg : gl g ≤ 3072) (hi : i + 5 < gl g) (hf : FamR h f gv op D) (hm : ModR h f gv op D) (kd : Kd h) (hu : u.1 + 30 ≤ 20000 ∧ u.2 + 1700 ≤ 900000) (K : ∀ h' (st : St), FamS h' st → ModT h' st → Kd h' → Ex g mL_law_ 2336 (LW9 i) [] h' (u.1 + 30, u.2 + 1700) Q) : Ex g mL_law_ 1226 (LW9 i) [] h u Q := by
  refine Ex.wf (fun w => ?_)
  refine x_aload_n (k4 := 1) (i := 1) rfl rfl (by decide +kernel) ?_
  refine x_arg (pc := 1227) (k := 1) (n := 1) hg (by omega) rfl rfl (by decide) (by decide +kernel) (by decide +kernel) (by decide +kernel) (by decide +kernel) (by decide +kernel) ?_
  rw [show 1227 + 6 = 1233 from rfl]
  refine x_aload_n (k4 := 3) (i := 3) rfl rfl (by decide +kernel) ?_
  refine sL_law__1234 (by omega) (c_soundsOf w hf hm kd fun h1 fr mr kd1 hz => ?_)
  simp only [cont, Option.toList, List.cons_append, List.nil_append]
  refine Ex.wf (fun w1 => ?_)
  refine rL_law__1237 ?_
  simp only [bL_law__1237, run, Nat.reduceAdd, lg, st1, st2, lkill, lset, fvv, sfv, kind3, cat1, retI, retA, List.length_cons, List.length_nil, true_and, and_true, or_true, true_or, qL_law_]
  refine x_arg (pc := 1240) (k := 1) (n := 1) hg (by omega) rfl rfl (by decide) (by decide +kernel) (by decide +kernel) (by decide +kernel) (by decide +kernel) (by decide +kernel) ?_
  rw [show 1240 + 6 = 1246 from rfl]
  refine sL_law__1246 (by dsimp only; omega) mr.1.1 (m_soundsOf w1 fr mr kd1 hz fun h2 fr2 mr2 kd2 e0 hz2 => ?_)
  simp only [cont, Option.toList, List.cons_append, List.nil_append]
  exact t_soundsOf mr2.1 kd2 e0 hz2 (by dsimp only; omega) (Ex.wid (by dsimp only; omega) (by dsimp only; omega) hu.1 hu.2 (K h2 _ fr2 mr2 kd2))
theorem o_18 {g : Gp} {Q : PQ} {h : AH} {u : Nat × Nat} {i : Nat} {f : Nat → Nat} {gv : Nat → List Nat} {op : Nat} {D : HD} (hg : gl g ≤ 3072) (hi : i + 5 < gl g) (hf : FamR h f gv op D) (hm : ModR h f gv op D) (kd : Kd h) (hu : u.1 + 30 ≤ 20000 ∧ u.2 + 1700 ≤ 900000) (K : ∀ h' (st : St), FamS h' st → ModT h' st → Kd h' → Ex g mL_law_ 2336 (LW9 i) [] h' (u.1 + 30, u.2 + 1700) Q) : Ex g mL_law_ 1282 (LW9 i) [] h u Q := by
  refine Ex.wf (fun w => ?_)
  refine x_aload_n (k4 := 1) (i := 1) rfl rfl (by decide +kernel) ?_
  refine x_arg (pc := 1283) (k := 1) (n := 1) hg (by omega) rfl rfl (by decide) (by decide +kernel) (by decide +kernel) (by decide +kernel) (by decide +kernel) (by decide +kernel) ?_
  rw [show 1283 + 6 = 1289 from rfl]
  refine x_arg (pc := 1289) (k := 2) (n := 2) hg (by omega) rfl rfl (by decide) (by decide +kernel) (by decide +kernel) (by decide +kernel) (by decide +kernel) (by decide +kernel) ?_
  rw [show 1289 + 6 = 1295 from rfl]
  refine x_arg (pc := 1295) (k := 3) (n := 3) hg (by omega) rfl rfl (by decide) (by decide +kernel) (by decide +kernel) (by decide +kernel) (by decide +kernel) (by decide +kernel) ?_
  rw [show 1295 + 6 = 1301 from rfl]
  refine x_aload_n (k4 := 3) (i := 3) rfl rfl (by decide +kernel) ?_
  refine sL_law__1302 (by omega) (c_cost w hf hm kd fun h1 fr mr kd1 hz => ?_)
  simp only [cont, Option.toList, List.cons_append, List.nil_append]
  refine Ex.wf (fun w1 => ?_)
  refine rL_law__1305 ?_
  simp only [bL_law__1305, run, Nat.reduceAdd, lg, st1, st2, lkill, lset, fvv, sfv, kind3, cat1, retI, retA, List.length_cons, List.length_nil, true_and, and_true, or_true, true_or, qL_law_]
  refine x_arg (pc := 1308) (k := 1) (n := 1) hg (by omega) rfl rfl (by decide) (by decide +kernel) (by decide +kernel) (by decide +kernel) (by decide +kernel) (by decide +kernel) ?_
  rw [show 1308 + 6 = 1314 from rfl]
  refine x_arg (pc := 1314) (k := 2) (n := 2) hg (by omega) rfl rfl (by decide) (by decide +kernel) (by decide +kernel) (by decide +kernel) (by decide +kernel) (by decide +kernel) ?_
  rw [show 1314 + 6 = 1320 from rfl]
  refine x_arg (pc := 1320) (k := 3) (n := 3) hg (by omega) rfl rfl (by decide) (by decide +kernel) (by decide +kernel) (by decide +kernel) (by decide +kernel) (by decide +kernel) ?_
  rw [show 1320 + 6 = 1326 from rfl]
  refine sL_law__1326 (by dsimp only; omega) mr.1.1 (m_cost w1 fr mr kd1 hz fun h2 fr2 mr2 kd2 e0 hz2 => ?_)
  simp only [cont, Option.toList, List.cons_append, List.nil_append]
  exact t_cost mr2.1 kd2 e0 hz2 (by dsimp only; omega) (Ex.wid (by dsimp only; omega) (by dsimp only; omega) hu.1 hu.2 (K h2 _ fr2 mr2 kd2))
theorem o_19 {g : Gp} {Q : PQ} {h : AH} {u : Nat × Nat} {i : Nat} {f : Nat → Nat} {gv : Nat → List Nat} {op : Nat} {D : HD} (hg : gl g ≤ 3072) (hi : i + 5 < gl g) (hf : FamR h f gv op D) (hm : ModR h f gv op D) (kd : Kd h) (hu : u.1 + 30 ≤ 20000 ∧ u.2 + 1700 ≤ 900000) (K : ∀ h' (st : St), FamS h' st → ModT h' st → Kd h' → Ex g mL_law_ 2336 (LW9 i) [] h' (u.1 + 30, u.2 + 1700) Q) : Ex g mL_law_ 1362 (LW9 i) [] h u Q := by
  refine Ex.wf (fun w => ?_)
  refine x_aload_n (k4 := 1) (i := 1) rfl rfl (by decide +kernel) ?_
  refine x_arg (pc := 1363) (k := 1) (n := 1) hg (by omega) rfl rfl (by decide) (by decide +kernel) (by decide +kernel) (by decide +kernel) (by decide +kernel) (by decide +kernel) ?_
  rw [show 1363 + 6 = 1369 from rfl]
  refine x_arg (pc := 1369) (k := 2) (n := 2) hg (by omega) rfl rfl (by decide) (by decide +kernel) (by decide +kernel) (by decide +kernel) (by decide +kernel) (by decide +kernel) ?_
  rw [show 1369 + 6 = 1375 from rfl]
  refine x_arg (pc := 1375) (k := 3) (n := 3) hg (by omega) rfl rfl (by decide) (by decide +kernel) (by decide +kernel) (by decide +kernel) (by decide +kernel) (by decide +kernel) ?_
  rw [show 1375 + 6 = 1381 from rfl]
  refine x_aload_n (k4 := 3) (i := 3) rfl rfl (by decide +kernel) ?_
  refine sL_law__1382 (by omega) (c_columns w hf hm kd fun h1 fr mr kd1 hz => ?_)
  simp only [cont, Option.toList, List.cons_append, List.nil_append]
  refine Ex.wf (fun w1 => ?_)
  refine rL_law__1385 ?_
  simp only [bL_law__1385, run, Nat.reduceAdd, lg, st1, st2, lkill, lset, fvv, sfv, kind3, cat1, retI, retA, List.length_cons, List.length_nil, true_and, and_true, or_true, true_or, qL_law_]
  refine x_arg (pc := 1388) (k := 1) (n := 1) hg (by omega) rfl rfl (by decide) (by decide +kernel) (by decide +kernel) (by decide +kernel) (by decide +kernel) (by decide +kernel) ?_
  rw [show 1388 + 6 = 1394 from rfl]
  refine x_arg (pc := 1394) (k := 2) (n := 2) hg (by omega) rfl rfl (by decide) (by decide +kernel) (by decide +kernel) (by decide +kernel) (by decide +kernel) (by decide +kernel) ?_
  rw [show 1394 + 6 = 1400 from rfl]
  refine x_arg (pc := 1400) (k := 3) (n := 3) hg (by omega) rfl rfl (by decide) (by decide +kernel) (by decide +kernel) (by decide +kernel) (by decide +kernel) (by decide +kernel) ?_
  rw [show 1400 + 6 = 1406 from rfl]
  refine sL_law__1406 (by dsimp only; omega) mr.1.1 (m_columns w1 fr mr kd1 hz fun h2 fr2 mr2 kd2 e0 hz2 => ?_)
  simp only [cont, Option.toList, List.cons_append, List.nil_append]
  exact t_columns mr2.1 kd2 e0 hz2 (by dsimp only; omega) (Ex.wid (by dsimp only; omega) (by dsimp only; omega) hu.1 hu.2 (K h2 _ fr2 mr2 kd2))
theorem o_20 {g : Gp} {Q : PQ} {h : AH} {u : Nat × Nat} {i : Nat} {f : Nat → Nat} {gv : Nat → List Nat} {op : Nat} {D : HD} (hg : gl g ≤ 3072) (hi : i + 5 < gl g) (hf : FamR h f gv op D) (hm : ModR h f gv op D) (kd : Kd h) (hu : u.1 + 30 ≤ 20000 ∧ u.2 + 1700 ≤ 900000) (K : ∀ h' (st : St), FamS h' st → ModT h' st → Kd h' → Ex g mL_law_ 2336 (LW9 i) [] h' (u.1 + 30, u.2 + 1700) Q) : Ex g mL_law_ 1442 (LW9 i) [] h u Q := by
  refine Ex.wf (fun w => ?_)
  refine x_aload_n (k4 := 1) (i := 1) rfl rfl (by decide +kernel) ?_
  refine x_arg (pc := 1443) (k := 1) (n := 1) hg (by omega) rfl rfl (by decide) (by decide +kernel) (by decide +kernel) (by decide +kernel) (by decide +kernel) (by decide +kernel) ?_
  rw [show 1443 + 6 = 1449 from rfl]
  refine x_arg (pc := 1449) (k := 2) (n := 2) hg (by omega) rfl rfl (by decide) (by decide +kernel) (by decide +kernel) (by decide +kernel) (by decide +kernel) (by decide +kernel) ?_
  rw [show 1449 + 6 = 1455 from rfl]
  refine x_arg (pc := 1455) (k := 3) (n := 3) hg (by omega) rfl rfl (by decide) (by decide +kernel) (by decide +kernel) (by decide +kernel) (by decide +kernel) (by decide +kernel) ?_
  rw [show 1455 + 6 = 1461 from rfl]
  refine x_arg (pc := 1461) (k := 4) (n := 4) hg (by omega) rfl rfl (by decide) (by decide +kernel) (by decide +kernel) (by decide +kernel) (by decide +kernel) (by decide +kernel) ?_
  rw [show 1461 + 6 = 1467 from rfl]
  refine x_aload_n (k4 := 3) (i := 3) rfl rfl (by decide +kernel) ?_
  refine sL_law__1468 (by omega) (c_columnAt w hf hm kd fun h1 fr mr kd1 hz => ?_)
  simp only [cont, Option.toList, List.cons_append, List.nil_append]
  refine Ex.wf (fun w1 => ?_)
  refine rL_law__1471 ?_
  simp only [bL_law__1471, run, Nat.reduceAdd, lg, st1, st2, lkill, lset, fvv, sfv, kind3, cat1, retI, retA, List.length_cons, List.length_nil, true_and, and_true, or_true, true_or, qL_law_]
  refine x_arg (pc := 1474) (k := 1) (n := 1) hg (by omega) rfl rfl (by decide) (by decide +kernel) (by decide +kernel) (by decide +kernel) (by decide +kernel) (by decide +kernel) ?_
  rw [show 1474 + 6 = 1480 from rfl]
  refine x_arg (pc := 1480) (k := 2) (n := 2) hg (by omega) rfl rfl (by decide) (by decide +kernel) (by decide +kernel) (by decide +kernel) (by decide +kernel) (by decide +kernel) ?_
  rw [show 1480 + 6 = 1486 from rfl]
  refine x_arg (pc := 1486) (k := 3) (n := 3) hg (by omega) rfl rfl (by decide) (by decide +kernel) (by decide +kernel) (by decide +kernel) (by decide +kernel) (by decide +kernel) ?_
  rw [show 1486 + 6 = 1492 from rfl]
  refine x_arg (pc := 1492) (k := 4) (n := 4) hg (by omega) rfl rfl (by decide) (by decide +kernel) (by decide +kernel) (by decide +kernel) (by decide +kernel) (by decide +kernel) ?_
  rw [show 1492 + 6 = 1498 from rfl]
  refine sL_law__1498 (by dsimp only; omega) mr.1.1 (m_columnAt w1 fr mr kd1 hz fun h2 fr2 mr2 kd2 e0 hz2 => ?_)
  simp only [cont, Option.toList, List.cons_append, List.nil_append]
  exact t_columnAt mr2.1 kd2 e0 hz2 (by dsimp only; omega) (Ex.wid (by dsimp only; omega) (by dsimp only; omega) hu.1 hu.2 (K h2 _ fr2 mr2 kd2))
theorem o_21 {g : Gp} {Q : PQ} {h : AH} {u : Nat × Nat} {i : Nat} {f : Nat → Nat} {gv : Nat → List Nat} {op : Nat} {D : HD} (hg : gl g ≤ 3072) (hi : i + 5 < gl g) (hf : FamR h f gv op D) (hm : ModR h f gv op D) (kd : Kd h) (hu : u.1 + 30 ≤ 20000 ∧ u.2 + 1700 ≤ 900000) (K : ∀ h' (st : St), FamS h' st → ModT h' st → Kd h' → Ex g mL_law_ 2336 (LW9 i) [] h' (u.1 + 30, u.2 + 1700) Q) : Ex g mL_law_ 1534 (LW9 i) [] h u Q := by
  refine Ex.wf (fun w => ?_)
  refine x_aload_n (k4 := 1) (i := 1) rfl rfl (by decide +kernel) ?_
  refine x_arg (pc := 1535) (k := 1) (n := 1) hg (by omega) rfl rfl (by decide) (by decide +kernel) (by decide +kernel) (by decide +kernel) (by decide +kernel) (by decide +kernel) ?_
  rw [show 1535 + 6 = 1541 from rfl]
  refine x_arg (pc := 1541) (k := 2) (n := 2) hg (by omega) rfl rfl (by decide) (by decide +kernel) (by decide +kernel) (by decide +kernel) (by decide +kernel) (by decide +kernel) ?_
  rw [show 1541 + 6 = 1547 from rfl]
  refine x_arg (pc := 1547) (k := 3) (n := 3) hg (by omega) rfl rfl (by decide) (by decide +kernel) (by decide +kernel) (by decide +kernel) (by decide +kernel) (by decide +kernel) ?_
  rw [show 1547 + 6 = 1553 from rfl]
  refine x_arg (pc := 1553) (k := 4) (n := 4) hg (by omega) rfl rfl (by decide) (by decide +kernel) (by decide +kernel) (by decide +kernel) (by decide +kernel) (by decide +kernel) ?_
  rw [show 1553 + 6 = 1559 from rfl]
  refine x_aload_n (k4 := 3) (i := 3) rfl rfl (by decide +kernel) ?_
  refine sL_law__1560 (by omega) (c_answers w hf hm kd fun h1 fr mr kd1 hz => ?_)
  simp only [cont, Option.toList, List.cons_append, List.nil_append]
  refine Ex.wf (fun w1 => ?_)
  refine rL_law__1563 ?_
  simp only [bL_law__1563, run, Nat.reduceAdd, lg, st1, st2, lkill, lset, fvv, sfv, kind3, cat1, retI, retA, List.length_cons, List.length_nil, true_and, and_true, or_true, true_or, qL_law_]
  refine x_arg (pc := 1566) (k := 1) (n := 1) hg (by omega) rfl rfl (by decide) (by decide +kernel) (by decide +kernel) (by decide +kernel) (by decide +kernel) (by decide +kernel) ?_
  rw [show 1566 + 6 = 1572 from rfl]
  refine x_arg (pc := 1572) (k := 2) (n := 2) hg (by omega) rfl rfl (by decide) (by decide +kernel) (by decide +kernel) (by decide +kernel) (by decide +kernel) (by decide +kernel) ?_
  rw [show 1572 + 6 = 1578 from rfl]
  refine x_arg (pc := 1578) (k := 3) (n := 3) hg (by omega) rfl rfl (by decide) (by decide +kernel) (by decide +kernel) (by decide +kernel) (by decide +kernel) (by decide +kernel) ?_
  rw [show 1578 + 6 = 1584 from rfl]
  refine x_arg (pc := 1584) (k := 4) (n := 4) hg (by omega) rfl rfl (by decide) (by decide +kernel) (by decide +kernel) (by decide +kernel) (by decide +kernel) (by decide +kernel) ?_
  rw [show 1584 + 6 = 1590 from rfl]
  refine sL_law__1590 (by dsimp only; omega) mr.1.1 (m_answers w1 fr mr kd1 hz fun h2 fr2 mr2 kd2 e0 hz2 => ?_)
  simp only [cont, Option.toList, List.cons_append, List.nil_append]
  exact t_answers mr2.1 kd2 e0 hz2 (by dsimp only; omega) (Ex.wid (by dsimp only; omega) (by dsimp only; omega) hu.1 hu.2 (K h2 _ fr2 mr2 kd2))
theorem o_22 {g : Gp} {Q : PQ} {h : AH} {u : Nat × Nat} {i : Nat} {f : Nat → Nat} {gv : Nat → List Nat} {op : Nat} {D : HD} (hg : gl g ≤ 3072) (hi : i + 5 < gl g) (hf : FamR h f gv op D) (hm : ModR h f gv op D) (kd : Kd h) (hu : u.1 + 30 ≤ 20000 ∧ u.2 + 1700 ≤ 900000) (K : ∀ h' (st : St), FamS h' st → ModT h' st → Kd h' → Ex g mL_law_ 2336 (LW9 i) [] h' (u.1 + 30, u.2 + 1700) Q) : Ex g mL_law_ 1626 (LW9 i) [] h u Q := by
  refine Ex.wf (fun w => ?_)
  refine x_aload_n (k4 := 1) (i := 1) rfl rfl (by decide +kernel) ?_
  refine x_arg (pc := 1627) (k := 1) (n := 1) hg (by omega) rfl rfl (by decide) (by decide +kernel) (by decide +kernel) (by decide +kernel) (by decide +kernel) (by decide +kernel) ?_
  rw [show 1627 + 6 = 1633 from rfl]
  refine x_arg (pc := 1633) (k := 2) (n := 2) hg (by omega) rfl rfl (by decide) (by decide +kernel) (by decide +kernel) (by decide +kernel) (by decide +kernel) (by decide +kernel) ?_
  rw [show 1633 + 6 = 1639 from rfl]
  refine x_arg (pc := 1639) (k := 3) (n := 3) hg (by omega) rfl rfl (by decide) (by decide +kernel) (by decide +kernel) (by decide +kernel) (by decide +kernel) (by decide +kernel) ?_
  rw [show 1639 + 6 = 1645 from rfl]
  refine x_aload_n (k4 := 3) (i := 3) rfl rfl (by decide +kernel) ?_
  refine sL_law__1646 (by omega) (c_mainAnswer w hf hm kd fun h1 fr mr kd1 hz => ?_)
  simp only [cont, Option.toList, List.cons_append, List.nil_append]
  refine Ex.wf (fun w1 => ?_)
  refine rL_law__1649 ?_
  simp only [bL_law__1649, run, Nat.reduceAdd, lg, st1, st2, lkill, lset, fvv, sfv, kind3, cat1, retI, retA, List.length_cons, List.length_nil, true_and, and_true, or_true, true_or, qL_law_]
  refine x_arg (pc := 1652) (k := 1) (n := 1) hg (by omega) rfl rfl (by decide) (by decide +kernel) (by decide +kernel) (by decide +kernel) (by decide +kernel) (by decide +kernel) ?_
  rw [show 1652 + 6 = 1658 from rfl]
  refine x_arg (pc := 1658) (k := 2) (n := 2) hg (by omega) rfl rfl (by decide) (by decide +kernel) (by decide +kernel) (by decide +kernel) (by decide +kernel) (by decide +kernel) ?_
  rw [show 1658 + 6 = 1664 from rfl]
  refine x_arg (pc := 1664) (k := 3) (n := 3) hg (by omega) rfl rfl (by decide) (by decide +kernel) (by decide +kernel) (by decide +kernel) (by decide +kernel) (by decide +kernel) ?_
  rw [show 1664 + 6 = 1670 from rfl]
  refine sL_law__1670 (by dsimp only; omega) mr.1.1 (m_mainAnswer w1 fr mr kd1 hz fun h2 fr2 mr2 kd2 e0 hz2 => ?_)
  simp only [cont, Option.toList, List.cons_append, List.nil_append]
  exact t_mainAnswer mr2.1 kd2 e0 hz2 (by dsimp only; omega) (Ex.wid (by dsimp only; omega) (by dsimp only; omega) hu.1 hu.2 (K h2 _ fr2 mr2 kd2))
theorem o_23 {g : Gp} {Q : PQ} {h : AH} {u : Nat × Nat} {i : Nat} {f : Nat → Nat} {gv : Nat → List Nat} {op : Nat} {D : HD} (hg : gl g ≤ 3072) (hi : i + 5 < gl g) (hf : FamR h f gv op D) (hm : ModR h f gv op D) (kd : Kd h) (hu : u.1 + 30 ≤ 20000 ∧ u.2 + 1700 ≤ 900000) (K : ∀ h' (st : St), FamS h' st → ModT h' st → Kd h' → Ex g mL_law_ 2336 (LW9 i) [] h' (u.1 + 30, u.2 + 1700) Q) : Ex g mL_law_ 1706 (LW9 i) [] h u Q := by
  refine Ex.wf (fun w => ?_)
  refine x_aload_n (k4 := 1) (i := 1) rfl rfl (by decide +kernel) ?_
  refine x_arg (pc := 1707) (k := 1) (n := 1) hg (by omega) rfl rfl (by decide) (by decide +kernel) (by decide +kernel) (by decide +kernel) (by decide +kernel) (by decide +kernel) ?_
  rw [show 1707 + 6 = 1713 from rfl]
  refine x_arg (pc := 1713) (k := 2) (n := 2) hg (by omega) rfl rfl (by decide) (by decide +kernel) (by decide +kernel) (by decide +kernel) (by decide +kernel) (by decide +kernel) ?_
  rw [show 1713 + 6 = 1719 from rfl]
  refine x_aload (i := 4) rfl (by decide +kernel) ?_
  refine sL_law__1721 (by omega) (c_far w hf hm kd fun h1 fr mr kd1 hz => ?_)
  simp only [cont, Option.toList, List.cons_append, List.nil_append]
  refine Ex.wf (fun w1 => ?_)
  refine rL_law__1724 ?_
  simp only [bL_law__1724, run, Nat.reduceAdd, lg, st1, st2, lkill, lset, fvv, sfv, kind3, cat1, retI, retA, List.length_cons, List.length_nil, true_and, and_true, or_true, true_or, qL_law_]
  refine x_arg (pc := 1727) (k := 1) (n := 1) hg (by omega) rfl rfl (by decide) (by decide +kernel) (by decide +kernel) (by decide +kernel) (by decide +kernel) (by decide +kernel) ?_
  rw [show 1727 + 6 = 1733 from rfl]
  refine x_arg (pc := 1733) (k := 2) (n := 2) hg (by omega) rfl rfl (by decide) (by decide +kernel) (by decide +kernel) (by decide +kernel) (by decide +kernel) (by decide +kernel) ?_
  rw [show 1733 + 6 = 1739 from rfl]
  refine sL_law__1739 (by dsimp only; omega) mr.1.1 (m_far w1 fr mr kd1 hz fun h2 fr2 mr2 kd2 e0 hz2 => ?_)
  simp only [cont, Option.toList, List.cons_append, List.nil_append]
  exact t_far mr2.1 kd2 e0 hz2 (by dsimp only; omega) (Ex.wid (by dsimp only; omega) (by dsimp only; omega) hu.1 hu.2 (K h2 _ fr2 mr2 kd2))
theorem o_24 {g : Gp} {Q : PQ} {h : AH} {u : Nat × Nat} {i : Nat} {f : Nat → Nat} {gv : Nat → List Nat} {op : Nat} {D : HD} (hg : gl g ≤ 3072) (hi : i + 5 < gl g) (hf : FamR h f gv op D) (hm : ModR h f gv op D) (kd : Kd h) (hu : u.1 + 30 ≤ 20000 ∧ u.2 + 1700 ≤ 900000) (K : ∀ h' (st : St), FamS h' st → ModT h' st → Kd h' → Ex g mL_law_ 2336 (LW9 i) [] h' (u.1 + 30, u.2 + 1700) Q) : Ex g mL_law_ 1795 (LW9 i) [] h u Q := by
  refine Ex.wf (fun w => ?_)
  refine x_aload_n (k4 := 1) (i := 1) rfl rfl (by decide +kernel) ?_
  refine x_arg (pc := 1796) (k := 1) (n := 1) hg (by omega) rfl rfl (by decide) (by decide +kernel) (by decide +kernel) (by decide +kernel) (by decide +kernel) (by decide +kernel) ?_
  rw [show 1796 + 6 = 1802 from rfl]
  refine x_aload_n (k4 := 3) (i := 3) rfl rfl (by decide +kernel) ?_
  refine sL_law__1803 (by omega) (c_nearest w hf hm kd fun h1 fr mr kd1 hz => ?_)
  simp only [cont, Option.toList, List.cons_append, List.nil_append]
  refine Ex.wf (fun w1 => ?_)
  refine rL_law__1806 ?_
  simp only [bL_law__1806, run, Nat.reduceAdd, lg, st1, st2, lkill, lset, fvv, sfv, kind3, cat1, retI, retA, List.length_cons, List.length_nil, true_and, and_true, or_true, true_or, qL_law_]
  refine x_arg (pc := 1809) (k := 1) (n := 1) hg (by omega) rfl rfl (by decide) (by decide +kernel) (by decide +kernel) (by decide +kernel) (by decide +kernel) (by decide +kernel) ?_
  rw [show 1809 + 6 = 1815 from rfl]
  refine sL_law__1815 (by dsimp only; omega) mr.1.1 (m_nearest w1 fr mr kd1 hz fun h2 fr2 mr2 kd2 e0 hz2 => ?_)
  simp only [cont, Option.toList, List.cons_append, List.nil_append]
  exact t_nearest mr2.1 kd2 e0 hz2 (by dsimp only; omega) (Ex.wid (by dsimp only; omega) (by dsimp only; omega) hu.1 hu.2 (K h2 _ fr2 mr2 kd2))
theorem o_25 {g : Gp} {Q : PQ} {h : AH} {u : Nat × Nat} {i : Nat} {f : Nat → Nat} {gv : Nat → List Nat} {op : Nat} {D : HD} (hg : gl g ≤ 3072) (hi : i + 5 < gl g) (hf : FamR h f gv op D) (hm : ModR h f gv op D) (kd : Kd h) (hu : u.1 + 30 ≤ 20000 ∧ u.2 + 1700 ≤ 900000) (K : ∀ h' (st : St), FamS h' st → ModT h' st → Kd h' → Ex g mL_law_ 2336 (LW9 i) [] h' (u.1 + 30, u.2 + 1700) Q) : Ex g mL_law_ 1851 (LW9 i) [] h u Q := by
  refine Ex.wf (fun w => ?_)
  refine x_aload_n (k4 := 1) (i := 1) rfl rfl (by decide +kernel) ?_
  refine x_arg (pc := 1852) (k := 1) (n := 1) hg (by omega) rfl rfl (by decide) (by decide +kernel) (by decide +kernel) (by decide +kernel) (by decide +kernel) (by decide +kernel) ?_
  rw [show 1852 + 6 = 1858 from rfl]
  refine x_arg (pc := 1858) (k := 2) (n := 2) hg (by omega) rfl rfl (by decide) (by decide +kernel) (by decide +kernel) (by decide +kernel) (by decide +kernel) (by decide +kernel) ?_
  rw [show 1858 + 6 = 1864 from rfl]
  refine x_aload_n (k4 := 3) (i := 3) rfl rfl (by decide +kernel) ?_
  refine sL_law__1865 (by omega) (c_recalled w hf hm kd fun h1 fr mr kd1 hz => ?_)
  simp only [cont, Option.toList, List.cons_append, List.nil_append]
  refine Ex.wf (fun w1 => ?_)
  refine rL_law__1868 ?_
  simp only [bL_law__1868, run, Nat.reduceAdd, lg, st1, st2, lkill, lset, fvv, sfv, kind3, cat1, retI, retA, List.length_cons, List.length_nil, true_and, and_true, or_true, true_or, qL_law_]
  refine x_arg (pc := 1871) (k := 1) (n := 1) hg (by omega) rfl rfl (by decide) (by decide +kernel) (by decide +kernel) (by decide +kernel) (by decide +kernel) (by decide +kernel) ?_
  rw [show 1871 + 6 = 1877 from rfl]
  refine x_arg (pc := 1877) (k := 2) (n := 2) hg (by omega) rfl rfl (by decide) (by decide +kernel) (by decide +kernel) (by decide +kernel) (by decide +kernel) (by decide +kernel) ?_
  rw [show 1877 + 6 = 1883 from rfl]
  refine sL_law__1883 (by dsimp only; omega) mr.1.1 (m_recalled w1 fr mr kd1 hz fun h2 fr2 mr2 kd2 e0 hz2 => ?_)
  simp only [cont, Option.toList, List.cons_append, List.nil_append]
  exact t_recalled mr2.1 kd2 e0 hz2 (by dsimp only; omega) (Ex.wid (by dsimp only; omega) (by dsimp only; omega) hu.1 hu.2 (K h2 _ fr2 mr2 kd2))
theorem o_26 {g : Gp} {Q : PQ} {h : AH} {u : Nat × Nat} {i : Nat} {f : Nat → Nat} {gv : Nat → List Nat} {op : Nat} {D : HD} (hg : gl g ≤ 3072) (hi : i + 5 < gl g) (hf : FamR h f gv op D) (hm : ModR h f gv op D) (kd : Kd h) (hu : u.1 + 30 ≤ 20000 ∧ u.2 + 1700 ≤ 900000) (K : ∀ h' (st : St), FamS h' st → ModT h' st → Kd h' → Ex g mL_law_ 2336 (LW9 i) [] h' (u.1 + 30, u.2 + 1700) Q) : Ex g mL_law_ 1919 (LW9 i) [] h u Q := by
  refine Ex.wf (fun w => ?_)
  refine x_aload_n (k4 := 1) (i := 1) rfl rfl (by decide +kernel) ?_
  refine x_arg (pc := 1920) (k := 1) (n := 1) hg (by omega) rfl rfl (by decide) (by decide +kernel) (by decide +kernel) (by decide +kernel) (by decide +kernel) (by decide +kernel) ?_
  rw [show 1920 + 6 = 1926 from rfl]
  refine x_arg (pc := 1926) (k := 2) (n := 2) hg (by omega) rfl rfl (by decide) (by decide +kernel) (by decide +kernel) (by decide +kernel) (by decide +kernel) (by decide +kernel) ?_
  rw [show 1926 + 6 = 1932 from rfl]
  refine x_arg (pc := 1932) (k := 3) (n := 3) hg (by omega) rfl rfl (by decide) (by decide +kernel) (by decide +kernel) (by decide +kernel) (by decide +kernel) (by decide +kernel) ?_
  rw [show 1932 + 6 = 1938 from rfl]
  refine x_aload_n (k4 := 3) (i := 3) rfl rfl (by decide +kernel) ?_
  refine sL_law__1939 (by omega) (c_recalledAt w hf hm kd fun h1 fr mr kd1 hz => ?_)
  simp only [cont, Option.toList, List.cons_append, List.nil_append]
  refine Ex.wf (fun w1 => ?_)
  refine rL_law__1942 ?_
  simp only [bL_law__1942, run, Nat.reduceAdd, lg, st1, st2, lkill, lset, fvv, sfv, kind3, cat1, retI, retA, List.length_cons, List.length_nil, true_and, and_true, or_true, true_or, qL_law_]
  refine x_arg (pc := 1945) (k := 1) (n := 1) hg (by omega) rfl rfl (by decide) (by decide +kernel) (by decide +kernel) (by decide +kernel) (by decide +kernel) (by decide +kernel) ?_
  rw [show 1945 + 6 = 1951 from rfl]
  refine x_arg (pc := 1951) (k := 2) (n := 2) hg (by omega) rfl rfl (by decide) (by decide +kernel) (by decide +kernel) (by decide +kernel) (by decide +kernel) (by decide +kernel) ?_
  rw [show 1951 + 6 = 1957 from rfl]
  refine x_arg (pc := 1957) (k := 3) (n := 3) hg (by omega) rfl rfl (by decide) (by decide +kernel) (by decide +kernel) (by decide +kernel) (by decide +kernel) (by decide +kernel) ?_
  rw [show 1957 + 6 = 1963 from rfl]
  refine sL_law__1963 (by dsimp only; omega) mr.1.1 (m_recalledAt w1 fr mr kd1 hz fun h2 fr2 mr2 kd2 e0 hz2 => ?_)
  simp only [cont, Option.toList, List.cons_append, List.nil_append]
  exact t_recalledAt mr2.1 kd2 e0 hz2 (by dsimp only; omega) (Ex.wid (by dsimp only; omega) (by dsimp only; omega) hu.1 hu.2 (K h2 _ fr2 mr2 kd2))
theorem o_27 {g : Gp} {Q : PQ} {h : AH} {u : Nat × Nat} {i : Nat} {f : Nat → Nat} {gv : Nat → List Nat} {op : Nat} {D : HD} (hg : gl g ≤ 3072) (hi : i + 5 < gl g) (hf : FamR h f gv op D) (hm : ModR h f gv op D) (kd : Kd h) (hu : u.1 + 30 ≤ 20000 ∧ u.2 + 1700 ≤ 900000) (K : ∀ h' (st : St), FamS h' st → ModT h' st → Kd h' → Ex g mL_law_ 2336 (LW9 i) [] h' (u.1 + 30, u.2 + 1700) Q) : Ex g mL_law_ 1999 (LW9 i) [] h u Q := by
  refine Ex.wf (fun w => ?_)
  refine x_aload_n (k4 := 1) (i := 1) rfl rfl (by decide +kernel) ?_
  refine x_arg (pc := 2000) (k := 1) (n := 1) hg (by omega) rfl rfl (by decide) (by decide +kernel) (by decide +kernel) (by decide +kernel) (by decide +kernel) (by decide +kernel) ?_
  rw [show 2000 + 6 = 2006 from rfl]
  refine x_aload_n (k4 := 3) (i := 3) rfl rfl (by decide +kernel) ?_
  refine sL_law__2007 (by omega) (c_recalledWell w hf hm kd fun h1 fr mr kd1 hz => ?_)
  simp only [cont, Option.toList, List.cons_append, List.nil_append]
  refine Ex.wf (fun w1 => ?_)
  refine rL_law__2010 ?_
  simp only [bL_law__2010, run, Nat.reduceAdd, lg, st1, st2, lkill, lset, fvv, sfv, kind3, cat1, retI, retA, List.length_cons, List.length_nil, true_and, and_true, or_true, true_or, qL_law_]
  refine x_arg (pc := 2013) (k := 1) (n := 1) hg (by omega) rfl rfl (by decide) (by decide +kernel) (by decide +kernel) (by decide +kernel) (by decide +kernel) (by decide +kernel) ?_
  rw [show 2013 + 6 = 2019 from rfl]
  refine sL_law__2019 (by dsimp only; omega) mr.1.1 (m_recalledWell w1 fr mr kd1 hz fun h2 fr2 mr2 kd2 e0 hz2 => ?_)
  simp only [cont, Option.toList, List.cons_append, List.nil_append]
  exact t_recalledWell mr2.1 kd2 e0 hz2 (by dsimp only; omega) (Ex.wid (by dsimp only; omega) (by dsimp only; omega) hu.1 hu.2 (K h2 _ fr2 mr2 kd2))
theorem o_28 {g : Gp} {Q : PQ} {h : AH} {u : Nat × Nat} {i : Nat} {f : Nat → Nat} {gv : Nat → List Nat} {op : Nat} {D : HD} (hg : gl g ≤ 3072) (hi : i + 5 < gl g) (hf : FamR h f gv op D) (hm : ModR h f gv op D) (kd : Kd h) (hu : u.1 + 30 ≤ 20000 ∧ u.2 + 1700 ≤ 900000) (K : ∀ h' (st : St), FamS h' st → ModT h' st → Kd h' → Ex g mL_law_ 2336 (LW9 i) [] h' (u.1 + 30, u.2 + 1700) Q) : Ex g mL_law_ 2055 (LW9 i) [] h u Q := by
  refine Ex.wf (fun w => ?_)
  refine x_aload_n (k4 := 1) (i := 1) rfl rfl (by decide +kernel) ?_
  refine x_arg (pc := 2056) (k := 1) (n := 1) hg (by omega) rfl rfl (by decide) (by decide +kernel) (by decide +kernel) (by decide +kernel) (by decide +kernel) (by decide +kernel) ?_
  rw [show 2056 + 6 = 2062 from rfl]
  refine x_arg (pc := 2062) (k := 2) (n := 2) hg (by omega) rfl rfl (by decide) (by decide +kernel) (by decide +kernel) (by decide +kernel) (by decide +kernel) (by decide +kernel) ?_
  rw [show 2062 + 6 = 2068 from rfl]
  refine x_aload_n (k4 := 3) (i := 3) rfl rfl (by decide +kernel) ?_
  refine sL_law__2069 (by omega) (c_swapped w hf hm kd fun h1 fr mr kd1 hz => ?_)
  simp only [cont, Option.toList, List.cons_append, List.nil_append]
  refine Ex.wf (fun w1 => ?_)
  refine rL_law__2072 ?_
  simp only [bL_law__2072, run, Nat.reduceAdd, lg, st1, st2, lkill, lset, fvv, sfv, kind3, cat1, retI, retA, List.length_cons, List.length_nil, true_and, and_true, or_true, true_or, qL_law_]
  refine x_arg (pc := 2075) (k := 1) (n := 1) hg (by omega) rfl rfl (by decide) (by decide +kernel) (by decide +kernel) (by decide +kernel) (by decide +kernel) (by decide +kernel) ?_
  rw [show 2075 + 6 = 2081 from rfl]
  refine x_arg (pc := 2081) (k := 2) (n := 2) hg (by omega) rfl rfl (by decide) (by decide +kernel) (by decide +kernel) (by decide +kernel) (by decide +kernel) (by decide +kernel) ?_
  rw [show 2081 + 6 = 2087 from rfl]
  refine sL_law__2087 (by dsimp only; omega) mr.1.1 (m_swapped w1 fr mr kd1 hz fun h2 fr2 mr2 kd2 e0 hz2 => ?_)
  simp only [cont, Option.toList, List.cons_append, List.nil_append]
  exact t_swapped mr2.1 kd2 e0 hz2 (by dsimp only; omega) (Ex.wid (by dsimp only; omega) (by dsimp only; omega) hu.1 hu.2 (K h2 _ fr2 mr2 kd2))
theorem o_29 {g : Gp} {Q : PQ} {h : AH} {u : Nat × Nat} {i : Nat} {f : Nat → Nat} {gv : Nat → List Nat} {op : Nat} {D : HD} (hg : gl g ≤ 3072) (hi : i + 5 < gl g) (hf : FamR h f gv op D) (hm : ModR h f gv op D) (kd : Kd h) (hu : u.1 + 30 ≤ 20000 ∧ u.2 + 1700 ≤ 900000) (K : ∀ h' (st : St), FamS h' st → ModT h' st → Kd h' → Ex g mL_law_ 2336 (LW9 i) [] h' (u.1 + 30, u.2 + 1700) Q) : Ex g mL_law_ 2123 (LW9 i) [] h u Q := by
  refine Ex.wf (fun w => ?_)
  refine x_aload_n (k4 := 1) (i := 1) rfl rfl (by decide +kernel) ?_
  refine x_arg (pc := 2124) (k := 1) (n := 1) hg (by omega) rfl rfl (by decide) (by decide +kernel) (by decide +kernel) (by decide +kernel) (by decide +kernel) (by decide +kernel) ?_
  rw [show 2124 + 6 = 2130 from rfl]
  refine x_arg (pc := 2130) (k := 2) (n := 2) hg (by omega) rfl rfl (by decide) (by decide +kernel) (by decide +kernel) (by decide +kernel) (by decide +kernel) (by decide +kernel) ?_
  rw [show 2130 + 6 = 2136 from rfl]
  refine x_aload_n (k4 := 3) (i := 3) rfl rfl (by decide +kernel) ?_
  refine sL_law__2137 (by omega) (c_without w hf hm kd fun h1 fr mr kd1 hz => ?_)
  simp only [cont, Option.toList, List.cons_append, List.nil_append]
  refine Ex.wf (fun w1 => ?_)
  refine rL_law__2140 ?_
  simp only [bL_law__2140, run, Nat.reduceAdd, lg, st1, st2, lkill, lset, fvv, sfv, kind3, cat1, retI, retA, List.length_cons, List.length_nil, true_and, and_true, or_true, true_or, qL_law_]
  refine x_arg (pc := 2143) (k := 1) (n := 1) hg (by omega) rfl rfl (by decide) (by decide +kernel) (by decide +kernel) (by decide +kernel) (by decide +kernel) (by decide +kernel) ?_
  rw [show 2143 + 6 = 2149 from rfl]
  refine x_arg (pc := 2149) (k := 2) (n := 2) hg (by omega) rfl rfl (by decide) (by decide +kernel) (by decide +kernel) (by decide +kernel) (by decide +kernel) (by decide +kernel) ?_
  rw [show 2149 + 6 = 2155 from rfl]
  refine sL_law__2155 (by dsimp only; omega) mr.1.1 (m_without w1 fr mr kd1 hz fun h2 fr2 mr2 kd2 e0 hz2 => ?_)
  simp only [cont, Option.toList, List.cons_append, List.nil_append]
  exact t_without mr2.1 kd2 e0 hz2 (by dsimp only; omega) (Ex.wid (by dsimp only; omega) (by dsimp only; omega) hu.1 hu.2 (K h2 _ fr2 mr2 kd2))
theorem o_30 {g : Gp} {Q : PQ} {h : AH} {u : Nat × Nat} {i : Nat} {f : Nat → Nat} {gv : Nat → List Nat} {op : Nat} {D : HD} (hg : gl g ≤ 3072) (hi : i + 5 < gl g) (hf : FamR h f gv op D) (hm : ModR h f gv op D) (kd : Kd h) (hu : u.1 + 30 ≤ 20000 ∧ u.2 + 1700 ≤ 900000) (K : ∀ h' (st : St), FamS h' st → ModT h' st → Kd h' → Ex g mL_law_ 2336 (LW9 i) [] h' (u.1 + 30, u.2 + 1700) Q) : Ex g mL_law_ 2191 (LW9 i) [] h u Q := by
  refine Ex.wf (fun w => ?_)
  refine x_aload_n (k4 := 1) (i := 1) rfl rfl (by decide +kernel) ?_
  refine x_arg (pc := 2192) (k := 1) (n := 1) hg (by omega) rfl rfl (by decide) (by decide +kernel) (by decide +kernel) (by decide +kernel) (by decide +kernel) (by decide +kernel) ?_
  rw [show 2192 + 6 = 2198 from rfl]
  refine x_aload_n (k4 := 3) (i := 3) rfl rfl (by decide +kernel) ?_
  refine sL_law__2199 (by omega) (c_withoutLoan w hf hm kd fun h1 fr mr kd1 hz => ?_)
  simp only [cont, Option.toList, List.cons_append, List.nil_append]
  refine Ex.wf (fun w1 => ?_)
  refine rL_law__2202 ?_
  simp only [bL_law__2202, run, Nat.reduceAdd, lg, st1, st2, lkill, lset, fvv, sfv, kind3, cat1, retI, retA, List.length_cons, List.length_nil, true_and, and_true, or_true, true_or, qL_law_]
  refine x_arg (pc := 2205) (k := 1) (n := 1) hg (by omega) rfl rfl (by decide) (by decide +kernel) (by decide +kernel) (by decide +kernel) (by decide +kernel) (by decide +kernel) ?_
  rw [show 2205 + 6 = 2211 from rfl]
  refine sL_law__2211 (by dsimp only; omega) mr.1.1 (m_withoutLoan w1 fr mr kd1 hz fun h2 fr2 mr2 kd2 e0 hz2 => ?_)
  simp only [cont, Option.toList, List.cons_append, List.nil_append]
  exact t_withoutLoan mr2.1 kd2 e0 hz2 (by dsimp only; omega) (Ex.wid (by dsimp only; omega) (by dsimp only; omega) hu.1 hu.2 (K h2 _ fr2 mr2 kd2))
theorem o_31 {g : Gp} {Q : PQ} {h : AH} {u : Nat × Nat} {i : Nat} {f : Nat → Nat} {gv : Nat → List Nat} {op : Nat} {D : HD} (hg : gl g ≤ 3072) (hi : i + 5 < gl g) (hf : FamR h f gv op D) (hm : ModR h f gv op D) (kd : Kd h) (hu : u.1 + 30 ≤ 20000 ∧ u.2 + 1700 ≤ 900000) (K : ∀ h' (st : St), FamS h' st → ModT h' st → Kd h' → Ex g mL_law_ 2336 (LW9 i) [] h' (u.1 + 30, u.2 + 1700) Q) : Ex g mL_law_ 2247 (LW9 i) [] h u Q := by
  refine Ex.wf (fun w => ?_)
  refine x_aload_n (k4 := 1) (i := 1) rfl rfl (by decide +kernel) ?_
  refine x_arg (pc := 2248) (k := 1) (n := 1) hg (by omega) rfl rfl (by decide) (by decide +kernel) (by decide +kernel) (by decide +kernel) (by decide +kernel) (by decide +kernel) ?_
  rw [show 2248 + 6 = 2254 from rfl]
  refine x_arg (pc := 2254) (k := 2) (n := 2) hg (by omega) rfl rfl (by decide) (by decide +kernel) (by decide +kernel) (by decide +kernel) (by decide +kernel) (by decide +kernel) ?_
  rw [show 2254 + 6 = 2260 from rfl]
  refine x_aload_n (k4 := 3) (i := 3) rfl rfl (by decide +kernel) ?_
  refine sL_law__2261 (by omega) (c_looksLent w hf hm kd fun h1 fr mr kd1 hz => ?_)
  simp only [cont, Option.toList, List.cons_append, List.nil_append]
  refine Ex.wf (fun w1 => ?_)
  refine rL_law__2264 ?_
  simp only [bL_law__2264, run, Nat.reduceAdd, lg, st1, st2, lkill, lset, fvv, sfv, kind3, cat1, retI, retA, List.length_cons, List.length_nil, true_and, and_true, or_true, true_or, qL_law_]
  refine x_arg (pc := 2267) (k := 1) (n := 1) hg (by omega) rfl rfl (by decide) (by decide +kernel) (by decide +kernel) (by decide +kernel) (by decide +kernel) (by decide +kernel) ?_
  rw [show 2267 + 6 = 2273 from rfl]
  refine x_arg (pc := 2273) (k := 2) (n := 2) hg (by omega) rfl rfl (by decide) (by decide +kernel) (by decide +kernel) (by decide +kernel) (by decide +kernel) (by decide +kernel) ?_
  rw [show 2273 + 6 = 2279 from rfl]
  refine sL_law__2279 (by dsimp only; omega) mr.1.1 (m_looksLent w1 fr mr kd1 hz fun h2 fr2 mr2 kd2 e0 hz2 => ?_)
  simp only [cont, Option.toList, List.cons_append, List.nil_append]
  exact t_looksLent mr2.1 kd2 e0 hz2 (lent_b ..) (by dsimp only; omega) (Ex.wid (by dsimp only; omega) (by dsimp only; omega) hu.1 hu.2 (K h2 _ fr2 mr2 kd2))
theorem o_32 {g : Gp} {Q : PQ} {h : AH} {u : Nat × Nat} {i : Nat} {f : Nat → Nat} {gv : Nat → List Nat} {op : Nat} {D : HD} (hg : gl g ≤ 3072) (hi : i + 5 < gl g) (hf : FamR h f gv op D) (hm : ModR h f gv op D) (kd : Kd h) (hu : u.1 + 30 ≤ 20000 ∧ u.2 + 1700 ≤ 900000) (K : ∀ h' (st : St), FamS h' st → ModT h' st → Kd h' → Ex g mL_law_ 2336 (LW9 i) [] h' (u.1 + 30, u.2 + 1700) Q) : Ex g mL_law_ 2322 (LW9 i) [] h u Q := by
  refine Ex.wf (fun w => ?_)
  refine x_aload_n (k4 := 1) (i := 1) rfl rfl (by decide +kernel) ?_
  refine sL_law__2323 (by omega) hf.1.1.1 (e_digest hf fun h1 fc fr => ?_)
  have m1 : ModR h1 f gv op D := Fc.mod w fc hm
  simp only [cont, Option.toList, List.cons_append, List.nil_append]
  refine Ex.wf (fun w1 => ?_)
  refine x_aload_n (k4 := 2) (i := 2) rfl rfl (by decide +kernel) ?_
  refine sL_law__2327 (by dsimp only; omega) m1.1.1 (e_mdigest m1 fun h2 ms e => ?_)
  simp only [cont, Option.toList, List.cons_append, List.nil_append]
  refine rL_law__2330 ?_
  simp only [bL_law__2330, run, Nat.reduceAdd, lg, st1, st2, lkill, lset, fvv, sfv, kind3, cat1, retI, retA, List.length_cons, List.length_nil, true_and, and_true, or_true, true_or, qL_law_, lcmp_self, not_true_eq_false, not_false_eq_true, false_implies, true_and, and_true, tti, not_true_eq_false, false_implies]
  exact Ex.wid (by dsimp only; omega) (by dsimp only; omega) hu.1 hu.2 (K h2 (f, gv, op, D) (ms.c.fam w1 m1.1 fr) (ms.mod w1 m1) ⟨ms.c.kd w1 (fc.kd w kd.1 (by decide)) (by decide), ms.c.kd w1 (fc.kd w kd.2 (by decide)) (by decide)⟩)
