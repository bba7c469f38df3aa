/-! ===== the wrappers (by program) ===== -/
theorem vin01 : vp_in 0 1 := (vp_in_nI (show 0 < 1 by decide) (by decide) : vp_in (nI 0) 1)
theorem wl_2 : Cond.classLink RL 13 (exN 2) ∈ lw_g := lg_3 (i := 71) (by decide +kernel) rfl
theorem wc_2 : Cond.castable (exN 2) (exN 2) ∈ lw_n := ln_3 (i := 81) (by decide +kernel) rfl
theorem wl_3 : Cond.classLink RL 22 (exN 3) ∈ lw_g := lg_3 (i := 186) (by decide +kernel) rfl
theorem wc_3 : Cond.castable (exN 3) (exN 3) ∈ lw_n := ln_3 (i := 196) (by decide +kernel) rfl
theorem wl_1 : Cond.classLink RL 27 (exN 1) ∈ lw_g := lg_3 (i := 213) (by decide +kernel) rfl
theorem wc_1 : Cond.castable (exN 1) (exN 1) ∈ lw_n := ln_3 (i := 227) (by decide +kernel) rfl
def WQb (ks : List Nat) (Q : PQ) : PQ := fun r h' => match r with
  | .inl (some (.inl v)) => zK h' 122 = (3, 1) ∧ (v = 0 ∨ v = 1) ∧ (Wf h' → Q (.inl (some (vI 0))) (sL h' 122 0 v.toInt64))
  | .inl _ => False
  | .inr k => ∃ j, ks[j]? = some k ∧ Q (.inl (some (vI (nI (j + 1))))) h'
def WQd (ks : List Nat) (Q : PQ) : PQ := fun r h' => match r with
  | .inl (some (.inr (.inr (.inl v)))) => zK h' 123 = (5, 1) ∧ (Wf h' → Q (.inl (some (vI 0))) (sD h' 123 0 v))
  | .inl _ => False
  | .inr k => ∃ j, ks[j]? = some k ∧ Q (.inl (some (vI (nI (j + 1))))) h'
theorem qL_setSound : mR mL_setSound = (some FieldType.int) := rfl
theorem qCL_setSound : mC mL_setSound = 1 := rfl
theorem qSL_setSound : mS mL_setSound = 6 := rfl
def bL_setSound_0 : List OP := [(.aload_n 3, 1, (3, 0, 0), vU), (.iconst 0, 1, (0, 0, 0), vI 0), (.aload_n 0, 1, (0, 0, 0), vU), (.iload_n 1, 1, (1, 0, 0), vU), (.iload_n 2, 1, (2, 0, 0), vU)]
theorem oL_setSound_0 : okAt mL_setSound bL_setSound_0 0 = true := by decide +kernel
theorem rL_setSound_0 {g : Gp} {Q : PQ} {L st : List AV} {h : AH} {u : Nat × Nat} (hr : run mL_setSound Q (fun pc L st h u => Ex g mL_setSound pc L st h u Q) bL_setSound_0 0 L st h u) : Ex g mL_setSound 0 L st h u Q := run_ok (M := mL_setSound) cfL_ok (fun _ _ _ _ _ k => k) _ _ _ _ _ _ oL_setSound_0 hr
def bL_setSound_8 : List OP := [(.i2l, 1, (0, 0, 0), vU), (.lastore, 1, (0, 0, 0), vU), (.goto 7, 3, (17, 0, 0), vU), (.iconst 0, 1, (0, 0, 0), vI 0), (.ireturn, 1, (0, 0, 0), vU)]
theorem oL_setSound_8 : okAt mL_setSound bL_setSound_8 8 = true := by decide +kernel
theorem rL_setSound_8 {g : Gp} {Q : PQ} {L st : List AV} {h : AH} {u : Nat × Nat} (hr : run mL_setSound Q (fun pc L st h u => Ex g mL_setSound pc L st h u Q) bL_setSound_8 8 L st h u) : Ex g mL_setSound 8 L st h u Q := run_ok (M := mL_setSound) cfL_ok (fun _ _ _ _ _ k => k) _ _ _ _ _ _ oL_setSound_8 hr
def bL_setSound_15 : List OP := [(.iconst 1, 1, (0, 0, 0), vI 1), (.ireturn, 1, (0, 0, 0), vU)]
theorem oL_setSound_15 : okAt mL_setSound bL_setSound_15 15 = true := by decide +kernel
theorem rL_setSound_15 {g : Gp} {Q : PQ} {L st : List AV} {h : AH} {u : Nat × Nat} (hr : run mL_setSound Q (fun pc L st h u => Ex g mL_setSound pc L st h u Q) bL_setSound_15 15 L st h u) : Ex g mL_setSound 15 L st h u Q := run_ok (M := mL_setSound) cfL_ok (fun _ _ _ _ _ k => k) _ _ _ _ _ _ oL_setSound_15 hr
theorem w_setSound {g : Gp} {h : AH} {Q : PQ} {i1 i2 : Int32} (hx : zK h 4 = (1, 9)) (ev : Ev g mX9_setSound [vR 4, vI i1, vI i2] h (WQ [2] Q)) : Ev g mL_setSound [vR 4, vI i1, vI i2, vR 122] h Q := by
  have fin : ∀ (k : Ex g mL_setSound 0 [vR 4, vI i1, vI i2, vR 122, vU] [] h (0, 0) Q), Ev g mL_setSound [vR 4, vI i1, vI i2, vR 122] h Q := fun k => Ev.of (by decide +kernel) rfl (Nat.le_of_ble_eq_true rfl) k
  refine fin ?_
  refine rL_setSound_0 ?_
  simp only [bL_setSound_0, run, Nat.reduceAdd, lg, st1, st2, lkill, lset, fvv, sfv, kind3, cat1, retI, retA, List.length_cons, List.length_nil, true_and, and_true, or_true, true_or, qL_setSound]
  refine Ex.callVX (av := [vI i1, vI i2]) (rest := [vI 0, vR 122]) (r := (RX9, TX9, 10)) (N := mX9_setSound) mX9_setSound_ok rfl lkL_7 imX9_setSound seX9_setSound rfl hx (by decide) (by decide) (by decide) (Nat.le_of_ble_eq_true rfl) (by decide +kernel) ev (fun v h' q => ?_) (fun k h' q => ?_)
  · rcases v with _ | (v | v)
    · exact False.elim q
    · obtain ⟨k1, q⟩ := q
      refine Ex.wf (fun wf => ?_)
      refine rL_setSound_8 ?_
      simp only [bL_setSound_8, run, Nat.reduceAdd, lg, st1, st2, lkill, lset, fvv, sfv, kind3, cat1, retI, retA, List.length_cons, List.length_nil, true_and, and_true, or_true, true_or, qL_setSound, Option.toList, List.cons_append, List.nil_append, k1, kL, kI, kD, kR, rL, rI, rD, iL, iD, iR, lI, lD, lR, not_true_eq_false, not_false_eq_true, false_implies, true_and, and_true, tti]
      exact ⟨vin01, q wf⟩
    · exact False.elim q
  · obtain ⟨j, e, q⟩ := q
    rcases j with _ | j
    · obtain rfl : 2 = k := Option.some.inj e
      refine ⟨[], ⟨0, 10, 13, 13⟩, [], 4, 2, rfl, fun z hz => absurd hz List.not_mem_nil, by decide, (by decide : ¬ 13 = 0), by decide, by decide, wl_2, wc_2, Or.inl ⟨by decide +kernel, rfl⟩, Nat.le_of_ble_eq_true rfl, ?_⟩
      refine rL_setSound_15 ?_
      simp only [bL_setSound_15, run, Nat.reduceAdd, lg, st1, st2, lkill, lset, fvv, sfv, kind3, cat1, retI, retA, List.length_cons, List.length_nil, true_and, and_true, or_true, true_or, qL_setSound, not_true_eq_false, not_false_eq_true, false_implies, true_and, and_true, tti]
      exact q
    exact absurd e (by simp)
theorem qL_word : mR mL_word = (some FieldType.int) := rfl
theorem qCL_word : mC mL_word = 1 := rfl
theorem qSL_word : mS mL_word = 6 := rfl
def bL_word_0 : List OP := [(.aload_n 2, 1, (2, 0, 0), vU), (.iconst 0, 1, (0, 0, 0), vI 0), (.aload_n 0, 1, (0, 0, 0), vU), (.iload_n 1, 1, (1, 0, 0), vU)]
theorem oL_word_0 : okAt mL_word bL_word_0 0 = true := by decide +kernel
theorem rL_word_0 {g : Gp} {Q : PQ} {L st : List AV} {h : AH} {u : Nat × Nat} (hr : run mL_word Q (fun pc L st h u => Ex g mL_word pc L st h u Q) bL_word_0 0 L st h u) : Ex g mL_word 0 L st h u Q := run_ok (M := mL_word) cfL_ok (fun _ _ _ _ _ k => k) _ _ _ _ _ _ oL_word_0 hr
def bL_word_7 : List OP := [(.i2l, 1, (0, 0, 0), vU), (.lastore, 1, (0, 0, 0), vU), (.goto 6, 3, (15, 0, 0), vU), (.iconst 0, 1, (0, 0, 0), vI 0), (.ireturn, 1, (0, 0, 0), vU)]
theorem oL_word_7 : okAt mL_word bL_word_7 7 = true := by decide +kernel
theorem rL_word_7 {g : Gp} {Q : PQ} {L st : List AV} {h : AH} {u : Nat × Nat} (hr : run mL_word Q (fun pc L st h u => Ex g mL_word pc L st h u Q) bL_word_7 7 L st h u) : Ex g mL_word 7 L st h u Q := run_ok (M := mL_word) cfL_ok (fun _ _ _ _ _ k => k) _ _ _ _ _ _ oL_word_7 hr
def bL_word_13 : List OP := [(.iconst 1, 1, (0, 0, 0), vI 1), (.ireturn, 1, (0, 0, 0), vU)]
theorem oL_word_13 : okAt mL_word bL_word_13 13 = true := by decide +kernel
theorem rL_word_13 {g : Gp} {Q : PQ} {L st : List AV} {h : AH} {u : Nat × Nat} (hr : run mL_word Q (fun pc L st h u => Ex g mL_word pc L st h u Q) bL_word_13 13 L st h u) : Ex g mL_word 13 L st h u Q := run_ok (M := mL_word) cfL_ok (fun _ _ _ _ _ k => k) _ _ _ _ _ _ oL_word_13 hr
theorem w_word {g : Gp} {h : AH} {Q : PQ} {i1 : Int32} (hx : zK h 4 = (1, 9)) (ev : Ev g mX9_word [vR 4, vI i1] h (WQ [2] Q)) : Ev g mL_word [vR 4, vI i1, vR 122] h Q := by
  have fin : ∀ (k : Ex g mL_word 0 [vR 4, vI i1, vR 122, vU] [] h (0, 0) Q), Ev g mL_word [vR 4, vI i1, vR 122] h Q := fun k => Ev.of (by decide +kernel) rfl (Nat.le_of_ble_eq_true rfl) k
  refine fin ?_
  refine rL_word_0 ?_
  simp only [bL_word_0, run, Nat.reduceAdd, lg, st1, st2, lkill, lset, fvv, sfv, kind3, cat1, retI, retA, List.length_cons, List.length_nil, true_and, and_true, or_true, true_or, qL_word]
  refine Ex.callVX (av := [vI i1]) (rest := [vI 0, vR 122]) (r := (RX9, TX9, 10)) (N := mX9_word) mX9_word_ok rfl lkL_15 imX9_word seX9_word rfl hx (by decide) (by decide) (by decide) (Nat.le_of_ble_eq_true rfl) (by decide +kernel) ev (fun v h' q => ?_) (fun k h' q => ?_)
  · rcases v with _ | (v | v)
    · exact False.elim q
    · obtain ⟨k1, q⟩ := q
      refine Ex.wf (fun wf => ?_)
      refine rL_word_7 ?_
      simp only [bL_word_7, run, Nat.reduceAdd, lg, st1, st2, lkill, lset, fvv, sfv, kind3, cat1, retI, retA, List.length_cons, List.length_nil, true_and, and_true, or_true, true_or, qL_word, Option.toList, List.cons_append, List.nil_append, k1, kL, kI, kD, kR, rL, rI, rD, iL, iD, iR, lI, lD, lR, not_true_eq_false, not_false_eq_true, false_implies, true_and, and_true, tti]
      exact ⟨vin01, q wf⟩
    · exact False.elim q
  · obtain ⟨j, e, q⟩ := q
    rcases j with _ | j
    · obtain rfl : 2 = k := Option.some.inj e
      refine ⟨[], ⟨0, 9, 12, 13⟩, [], 3, 1, rfl, fun z hz => absurd hz List.not_mem_nil, by decide, (by decide : ¬ 13 = 0), by decide, by decide, wl_2, wc_2, Or.inr ⟨3, rfl, by decide +kernel, rfl⟩, Nat.le_of_ble_eq_true rfl, ?_⟩
      refine rL_word_13 ?_
      simp only [bL_word_13, run, Nat.reduceAdd, lg, st1, st2, lkill, lset, fvv, sfv, kind3, cat1, retI, retA, List.length_cons, List.length_nil, true_and, and_true, or_true, true_or, qL_word, not_true_eq_false, not_false_eq_true, false_implies, true_and, and_true, tti]
      exact q
    exact absurd e (by simp)
theorem qL_spell : mR mL_spell = (some FieldType.int) := rfl
theorem qCL_spell : mC mL_spell = 2 := rfl
theorem qSL_spell : mS mL_spell = 12 := rfl
def bL_spell_0 : List OP := [(.aload_n 2, 1, (2, 0, 0), vU), (.iconst 0, 1, (0, 0, 0), vI 0), (.aload_n 0, 1, (0, 0, 0), vU), (.iload_n 1, 1, (1, 0, 0), vU)]
theorem oL_spell_0 : okAt mL_spell bL_spell_0 0 = true := by decide +kernel
theorem rL_spell_0 {g : Gp} {Q : PQ} {L st : List AV} {h : AH} {u : Nat × Nat} (hr : run mL_spell Q (fun pc L st h u => Ex g mL_spell pc L st h u Q) bL_spell_0 0 L st h u) : Ex g mL_spell 0 L st h u Q := run_ok (M := mL_spell) cfL_ok (fun _ _ _ _ _ k => k) _ _ _ _ _ _ oL_spell_0 hr
def bL_spell_7 : List OP := [(.i2l, 1, (0, 0, 0), vU), (.lastore, 1, (0, 0, 0), vU), (.goto 9, 3, (18, 0, 0), vU), (.iconst 0, 1, (0, 0, 0), vI 0), (.ireturn, 1, (0, 0, 0), vU)]
theorem oL_spell_7 : okAt mL_spell bL_spell_7 7 = true := by decide +kernel
theorem rL_spell_7 {g : Gp} {Q : PQ} {L st : List AV} {h : AH} {u : Nat × Nat} (hr : run mL_spell Q (fun pc L st h u => Ex g mL_spell pc L st h u Q) bL_spell_7 7 L st h u) : Ex g mL_spell 7 L st h u Q := run_ok (M := mL_spell) cfL_ok (fun _ _ _ _ _ k => k) _ _ _ _ _ _ oL_spell_7 hr
def bL_spell_13 : List OP := [(.iconst 1, 1, (0, 0, 0), vI 1), (.ireturn, 1, (0, 0, 0), vU)]
theorem oL_spell_13 : okAt mL_spell bL_spell_13 13 = true := by decide +kernel
theorem rL_spell_13 {g : Gp} {Q : PQ} {L st : List AV} {h : AH} {u : Nat × Nat} (hr : run mL_spell Q (fun pc L st h u => Ex g mL_spell pc L st h u Q) bL_spell_13 13 L st h u) : Ex g mL_spell 13 L st h u Q := run_ok (M := mL_spell) cfL_ok (fun _ _ _ _ _ k => k) _ _ _ _ _ _ oL_spell_13 hr
def bL_spell_16 : List OP := [(.iconst 2, 1, (0, 0, 0), vI 2), (.ireturn, 1, (0, 0, 0), vU)]
theorem oL_spell_16 : okAt mL_spell bL_spell_16 16 = true := by decide +kernel
theorem rL_spell_16 {g : Gp} {Q : PQ} {L st : List AV} {h : AH} {u : Nat × Nat} (hr : run mL_spell Q (fun pc L st h u => Ex g mL_spell pc L st h u Q) bL_spell_16 16 L st h u) : Ex g mL_spell 16 L st h u Q := run_ok (M := mL_spell) cfL_ok (fun _ _ _ _ _ k => k) _ _ _ _ _ _ oL_spell_16 hr
theorem w_spell {g : Gp} {h : AH} {Q : PQ} {i1 : Int32} (hx : zK h 4 = (1, 9)) (ev : Ev g mX9_spell [vR 4, vI i1] h (WQ [2, 3] Q)) : Ev g mL_spell [vR 4, vI i1, vR 122] h Q := by
  have fin : ∀ (k : Ex g mL_spell 0 [vR 4, vI i1, vR 122, vU] [] h (0, 0) Q), Ev g mL_spell [vR 4, vI i1, vR 122] h Q := fun k => Ev.of (by decide +kernel) rfl (Nat.le_of_ble_eq_true rfl) k
  refine fin ?_
  refine rL_spell_0 ?_
  simp only [bL_spell_0, run, Nat.reduceAdd, lg, st1, st2, lkill, lset, fvv, sfv, kind3, cat1, retI, retA, List.length_cons, List.length_nil, true_and, and_true, or_true, true_or, qL_spell]
  refine Ex.callVX (av := [vI i1]) (rest := [vI 0, vR 122]) (r := (RX9, TX9, 10)) (N := mX9_spell) mX9_spell_ok rfl lkL_19 imX9_spell seX9_spell rfl hx (by decide) (by decide) (by decide) (Nat.le_of_ble_eq_true rfl) (by decide +kernel) ev (fun v h' q => ?_) (fun k h' q => ?_)
  · rcases v with _ | (v | v)
    · exact False.elim q
    · obtain ⟨k1, q⟩ := q
      refine Ex.wf (fun wf => ?_)
      refine rL_spell_7 ?_
      simp only [bL_spell_7, run, Nat.reduceAdd, lg, st1, st2, lkill, lset, fvv, sfv, kind3, cat1, retI, retA, List.length_cons, List.length_nil, true_and, and_true, or_true, true_or, qL_spell, Option.toList, List.cons_append, List.nil_append, k1, kL, kI, kD, kR, rL, rI, rD, iL, iD, iR, lI, lD, lR, not_true_eq_false, not_false_eq_true, false_implies, true_and, and_true, tti]
      exact ⟨vin01, q wf⟩
    · exact False.elim q
  · obtain ⟨j, e, q⟩ := q
    rcases j with _ | j
    · obtain rfl : 2 = k := Option.some.inj e
      refine ⟨[], ⟨0, 9, 12, 13⟩, [⟨0, 9, 15, 22⟩], 3, 1, rfl, fun z hz => absurd hz List.not_mem_nil, by decide, (by decide : ¬ 13 = 0), by decide, by decide, wl_2, wc_2, Or.inr ⟨3, rfl, by decide +kernel, rfl⟩, Nat.le_of_ble_eq_true rfl, ?_⟩
      refine rL_spell_13 ?_
      simp only [bL_spell_13, run, Nat.reduceAdd, lg, st1, st2, lkill, lset, fvv, sfv, kind3, cat1, retI, retA, List.length_cons, List.length_nil, true_and, and_true, or_true, true_or, qL_spell, not_true_eq_false, not_false_eq_true, false_implies, true_and, and_true, tti]
      exact q
    rcases j with _ | j
    · obtain rfl : 3 = k := Option.some.inj e
      refine ⟨[⟨0, 9, 12, 13⟩], ⟨0, 9, 15, 22⟩, [], 3, 1, rfl, List.forall_mem_cons.mpr ⟨⟨(by decide : ¬ 13 = 0), 2, by decide, by decide, by decide, wl_2⟩, fun _ h => absurd h List.not_mem_nil⟩, by decide, (by decide : ¬ 22 = 0), by decide, by decide, wl_3, wc_3, Or.inr ⟨3, rfl, by decide +kernel, rfl⟩, Nat.le_of_ble_eq_true rfl, ?_⟩
      refine rL_spell_16 ?_
      simp only [bL_spell_16, run, Nat.reduceAdd, lg, st1, st2, lkill, lset, fvv, sfv, kind3, cat1, retI, retA, List.length_cons, List.length_nil, true_and, and_true, or_true, true_or, qL_spell, not_true_eq_false, not_false_eq_true, false_implies, true_and, and_true, tti]
      exact q
    exact absurd e (by simp)
theorem qL_language : mR mL_language = (some FieldType.int) := rfl
theorem qCL_language : mC mL_language = 5 := rfl
theorem qSL_language : mS mL_language = 32 := rfl
def bL_language_0 : List OP := [(.aload_n 2, 1, (2, 0, 0), vU), (.iconst 0, 1, (0, 0, 0), vI 0), (.aload_n 0, 1, (0, 0, 0), vU), (.iload_n 1, 1, (1, 0, 0), vU)]
theorem oL_language_0 : okAt mL_language bL_language_0 0 = true := by decide +kernel
theorem rL_language_0 {g : Gp} {Q : PQ} {L st : List AV} {h : AH} {u : Nat × Nat} (hr : run mL_language Q (fun pc L st h u => Ex g mL_language pc L st h u Q) bL_language_0 0 L st h u) : Ex g mL_language 0 L st h u Q := run_ok (M := mL_language) cfL_ok (fun _ _ _ _ _ k => k) _ _ _ _ _ _ oL_language_0 hr
def bL_language_7 : List OP := [(.i2l, 1, (0, 0, 0), vU), (.lastore, 1, (0, 0, 0), vU), (.goto 9, 3, (18, 0, 0), vU), (.iconst 0, 1, (0, 0, 0), vI 0), (.ireturn, 1, (0, 0, 0), vU)]
theorem oL_language_7 : okAt mL_language bL_language_7 7 = true := by decide +kernel
theorem rL_language_7 {g : Gp} {Q : PQ} {L st : List AV} {h : AH} {u : Nat × Nat} (hr : run mL_language Q (fun pc L st h u => Ex g mL_language pc L st h u Q) bL_language_7 7 L st h u) : Ex g mL_language 7 L st h u Q := run_ok (M := mL_language) cfL_ok (fun _ _ _ _ _ k => k) _ _ _ _ _ _ oL_language_7 hr
def bL_language_13 : List OP := [(.iconst 1, 1, (0, 0, 0), vI 1), (.ireturn, 1, (0, 0, 0), vU)]
theorem oL_language_13 : okAt mL_language bL_language_13 13 = true := by decide +kernel
theorem rL_language_13 {g : Gp} {Q : PQ} {L st : List AV} {h : AH} {u : Nat × Nat} (hr : run mL_language Q (fun pc L st h u => Ex g mL_language pc L st h u Q) bL_language_13 13 L st h u) : Ex g mL_language 13 L st h u Q := run_ok (M := mL_language) cfL_ok (fun _ _ _ _ _ k => k) _ _ _ _ _ _ oL_language_13 hr
def bL_language_16 : List OP := [(.iconst 2, 1, (0, 0, 0), vI 2), (.ireturn, 1, (0, 0, 0), vU)]
theorem oL_language_16 : okAt mL_language bL_language_16 16 = true := by decide +kernel
theorem rL_language_16 {g : Gp} {Q : PQ} {L st : List AV} {h : AH} {u : Nat × Nat} (hr : run mL_language Q (fun pc L st h u => Ex g mL_language pc L st h u Q) bL_language_16 16 L st h u) : Ex g mL_language 16 L st h u Q := run_ok (M := mL_language) cfL_ok (fun _ _ _ _ _ k => k) _ _ _ _ _ _ oL_language_16 hr
theorem w_language {g : Gp} {h : AH} {Q : PQ} {i1 : Int32} (hx : zK h 4 = (1, 9)) (ev : Ev g mX9_language [vR 4, vI i1] h (WQ [1, 3] Q)) : Ev g mL_language [vR 4, vI i1, vR 122] h Q := by
  have fin : ∀ (k : Ex g mL_language 0 [vR 4, vI i1, vR 122, vU] [] h (0, 0) Q), Ev g mL_language [vR 4, vI i1, vR 122] h Q := fun k => Ev.of (by decide +kernel) rfl (Nat.le_of_ble_eq_true rfl) k
  refine fin ?_
  refine rL_language_0 ?_
  simp only [bL_language_0, run, Nat.reduceAdd, lg, st1, st2, lkill, lset, fvv, sfv, kind3, cat1, retI, retA, List.length_cons, List.length_nil, true_and, and_true, or_true, true_or, qL_language]
  refine Ex.callVX (av := [vI i1]) (rest := [vI 0, vR 122]) (r := (RX9, TX9, 10)) (N := mX9_language) mX9_language_ok rfl lkL_24 imX9_language seX9_language rfl hx (by decide) (by decide) (by decide) (Nat.le_of_ble_eq_true rfl) (by decide +kernel) ev (fun v h' q => ?_) (fun k h' q => ?_)
  · rcases v with _ | (v | v)
    · exact False.elim q
    · obtain ⟨k1, q⟩ := q
      refine Ex.wf (fun wf => ?_)
      refine rL_language_7 ?_
      simp only [bL_language_7, run, Nat.reduceAdd, lg, st1, st2, lkill, lset, fvv, sfv, kind3, cat1, retI, retA, List.length_cons, List.length_nil, true_and, and_true, or_true, true_or, qL_language, Option.toList, List.cons_append, List.nil_append, k1, kL, kI, kD, kR, rL, rI, rD, iL, iD, iR, lI, lD, lR, not_true_eq_false, not_false_eq_true, false_implies, true_and, and_true, tti]
      exact ⟨vin01, q wf⟩
    · exact False.elim q
  · obtain ⟨j, e, q⟩ := q
    rcases j with _ | j
    · obtain rfl : 1 = k := Option.some.inj e
      refine ⟨[], ⟨0, 9, 12, 27⟩, [⟨0, 9, 15, 22⟩], 3, 1, rfl, fun z hz => absurd hz List.not_mem_nil, by decide, (by decide : ¬ 27 = 0), by decide, by decide, wl_1, wc_1, Or.inr ⟨3, rfl, by decide +kernel, rfl⟩, Nat.le_of_ble_eq_true rfl, ?_⟩
      refine rL_language_13 ?_
      simp only [bL_language_13, run, Nat.reduceAdd, lg, st1, st2, lkill, lset, fvv, sfv, kind3, cat1, retI, retA, List.length_cons, List.length_nil, true_and, and_true, or_true, true_or, qL_language, not_true_eq_false, not_false_eq_true, false_implies, true_and, and_true, tti]
      exact q
    rcases j with _ | j
    · obtain rfl : 3 = k := Option.some.inj e
      refine ⟨[⟨0, 9, 12, 27⟩], ⟨0, 9, 15, 22⟩, [], 3, 1, rfl, List.forall_mem_cons.mpr ⟨⟨(by decide : ¬ 27 = 0), 1, by decide, by decide, by decide, wl_1⟩, fun _ h => absurd h List.not_mem_nil⟩, by decide, (by decide : ¬ 22 = 0), by decide, by decide, wl_3, wc_3, Or.inr ⟨3, rfl, by decide +kernel, rfl⟩, Nat.le_of_ble_eq_true rfl, ?_⟩
      refine rL_language_16 ?_
      simp only [bL_language_16, run, Nat.reduceAdd, lg, st1, st2, lkill, lset, fvv, sfv, kind3, cat1, retI, retA, List.length_cons, List.length_nil, true_and, and_true, or_true, true_or, qL_language, not_true_eq_false, not_false_eq_true, false_implies, true_and, and_true, tti]
      exact q
    exact absurd e (by simp)
theorem qL_law : mR mL_law = (some FieldType.int) := rfl
theorem qCL_law : mC mL_law = 6 := rfl
theorem qSL_law : mS mL_law = 43 := rfl
def bL_law_0 : List OP := [(.aload 6, 2, (6, 0, 0), vU), (.iconst 0, 1, (0, 0, 0), vI 0), (.aload_n 0, 1, (0, 0, 0), vU), (.iload_n 1, 1, (1, 0, 0), vU), (.iload_n 2, 1, (2, 0, 0), vU), (.iload_n 3, 1, (3, 0, 0), vU), (.iload 4, 2, (4, 0, 0), vU), (.iload 5, 2, (5, 0, 0), vU)]
theorem oL_law_0 : okAt mL_law bL_law_0 0 = true := by decide +kernel
theorem rL_law_0 {g : Gp} {Q : PQ} {L st : List AV} {h : AH} {u : Nat × Nat} (hr : run mL_law Q (fun pc L st h u => Ex g mL_law pc L st h u Q) bL_law_0 0 L st h u) : Ex g mL_law 0 L st h u Q := run_ok (M := mL_law) cfL_ok (fun _ _ _ _ _ k => k) _ _ _ _ _ _ oL_law_0 hr
def bL_law_14 : List OP := [(.i2l, 1, (0, 0, 0), vU), (.lastore, 1, (0, 0, 0), vU), (.goto 15, 3, (31, 0, 0), vU), (.iconst 0, 1, (0, 0, 0), vI 0), (.ireturn, 1, (0, 0, 0), vU)]
theorem oL_law_14 : okAt mL_law bL_law_14 14 = true := by decide +kernel
theorem rL_law_14 {g : Gp} {Q : PQ} {L st : List AV} {h : AH} {u : Nat × Nat} (hr : run mL_law Q (fun pc L st h u => Ex g mL_law pc L st h u Q) bL_law_14 14 L st h u) : Ex g mL_law 14 L st h u Q := run_ok (M := mL_law) cfL_ok (fun _ _ _ _ _ k => k) _ _ _ _ _ _ oL_law_14 hr
def bL_law_21 : List OP := [(.iconst 1, 1, (0, 0, 0), vI 1), (.ireturn, 1, (0, 0, 0), vU)]
theorem oL_law_21 : okAt mL_law bL_law_21 21 = true := by decide +kernel
theorem rL_law_21 {g : Gp} {Q : PQ} {L st : List AV} {h : AH} {u : Nat × Nat} (hr : run mL_law Q (fun pc L st h u => Ex g mL_law pc L st h u Q) bL_law_21 21 L st h u) : Ex g mL_law 21 L st h u Q := run_ok (M := mL_law) cfL_ok (fun _ _ _ _ _ k => k) _ _ _ _ _ _ oL_law_21 hr
def bL_law_25 : List OP := [(.iconst 2, 1, (0, 0, 0), vI 2), (.ireturn, 1, (0, 0, 0), vU)]
theorem oL_law_25 : okAt mL_law bL_law_25 25 = true := by decide +kernel
theorem rL_law_25 {g : Gp} {Q : PQ} {L st : List AV} {h : AH} {u : Nat × Nat} (hr : run mL_law Q (fun pc L st h u => Ex g mL_law pc L st h u Q) bL_law_25 25 L st h u) : Ex g mL_law 25 L st h u Q := run_ok (M := mL_law) cfL_ok (fun _ _ _ _ _ k => k) _ _ _ _ _ _ oL_law_25 hr
def bL_law_29 : List OP := [(.iconst 3, 1, (0, 0, 0), vI 3), (.ireturn, 1, (0, 0, 0), vU)]
theorem oL_law_29 : okAt mL_law bL_law_29 29 = true := by decide +kernel
theorem rL_law_29 {g : Gp} {Q : PQ} {L st : List AV} {h : AH} {u : Nat × Nat} (hr : run mL_law Q (fun pc L st h u => Ex g mL_law pc L st h u Q) bL_law_29 29 L st h u) : Ex g mL_law 29 L st h u Q := run_ok (M := mL_law) cfL_ok (fun _ _ _ _ _ k => k) _ _ _ _ _ _ oL_law_29 hr
theorem w_law {g : Gp} {h : AH} {Q : PQ} {i1 i2 i3 i4 i5 : Int32} (hx : zK h 4 = (1, 9)) (ev : Ev g mX9_law [vR 4, vI i1, vI i2, vI i3, vI i4, vI i5] h (WQ [1, 2, 3] Q)) : Ev g mL_law [vR 4, vI i1, vI i2, vI i3, vI i4, vI i5, vR 122] h Q := by
  have fin : ∀ (k : Ex g mL_law 0 [vR 4, vI i1, vI i2, vI i3, vI i4, vI i5, vR 122, vU] [] h (0, 0) Q), Ev g mL_law [vR 4, vI i1, vI i2, vI i3, vI i4, vI i5, vR 122] h Q := fun k => Ev.of (by decide +kernel) rfl (Nat.le_of_ble_eq_true rfl) k
  refine fin ?_
  refine rL_law_0 ?_
  simp only [bL_law_0, run, Nat.reduceAdd, lg, st1, st2, lkill, lset, fvv, sfv, kind3, cat1, retI, retA, List.length_cons, List.length_nil, true_and, and_true, or_true, true_or, qL_law]
  refine Ex.callVX (av := [vI i1, vI i2, vI i3, vI i4, vI i5]) (rest := [vI 0, vR 122]) (r := (RX9, TX9, 10)) (N := mX9_law) mX9_law_ok rfl lkL_29 imX9_law seX9_law rfl hx (by decide) (by decide) (by decide) (Nat.le_of_ble_eq_true rfl) (by decide +kernel) ev (fun v h' q => ?_) (fun k h' q => ?_)
  · rcases v with _ | (v | v)
    · exact False.elim q
    · obtain ⟨k1, q⟩ := q
      refine Ex.wf (fun wf => ?_)
      refine rL_law_14 ?_
      simp only [bL_law_14, run, Nat.reduceAdd, lg, st1, st2, lkill, lset, fvv, sfv, kind3, cat1, retI, retA, List.length_cons, List.length_nil, true_and, and_true, or_true, true_or, qL_law, Option.toList, List.cons_append, List.nil_append, k1, kL, kI, kD, kR, rL, rI, rD, iL, iD, iR, lI, lD, lR, not_true_eq_false, not_false_eq_true, false_implies, true_and, and_true, tti]
      exact ⟨vin01, q wf⟩
    · exact False.elim q
  · obtain ⟨j, e, q⟩ := q
    rcases j with _ | j
    · obtain rfl : 1 = k := Option.some.inj e
      refine ⟨[], ⟨0, 16, 19, 27⟩, [⟨0, 16, 23, 13⟩, ⟨0, 16, 27, 22⟩], 7, 2, rfl, fun z hz => absurd hz List.not_mem_nil, by decide, (by decide : ¬ 27 = 0), by decide, by decide, wl_1, wc_1, Or.inl ⟨by decide +kernel, rfl⟩, Nat.le_of_ble_eq_true rfl, ?_⟩
      refine rL_law_21 ?_
      simp only [bL_law_21, run, Nat.reduceAdd, lg, st1, st2, lkill, lset, fvv, sfv, kind3, cat1, retI, retA, List.length_cons, List.length_nil, true_and, and_true, or_true, true_or, qL_law, not_true_eq_false, not_false_eq_true, false_implies, true_and, and_true, tti]
      exact q
    rcases j with _ | j
    · obtain rfl : 2 = k := Option.some.inj e
      refine ⟨[⟨0, 16, 19, 27⟩], ⟨0, 16, 23, 13⟩, [⟨0, 16, 27, 22⟩], 7, 2, rfl, List.forall_mem_cons.mpr ⟨⟨(by decide : ¬ 27 = 0), 1, by decide, by decide, by decide, wl_1⟩, fun _ h => absurd h List.not_mem_nil⟩, by decide, (by decide : ¬ 13 = 0), by decide, by decide, wl_2, wc_2, Or.inl ⟨by decide +kernel, rfl⟩, Nat.le_of_ble_eq_true rfl, ?_⟩
      refine rL_law_25 ?_
      simp only [bL_law_25, run, Nat.reduceAdd, lg, st1, st2, lkill, lset, fvv, sfv, kind3, cat1, retI, retA, List.length_cons, List.length_nil, true_and, and_true, or_true, true_or, qL_law, not_true_eq_false, not_false_eq_true, false_implies, true_and, and_true, tti]
      exact q
    rcases j with _ | j
    · obtain rfl : 3 = k := Option.some.inj e
      refine ⟨[⟨0, 16, 19, 27⟩, ⟨0, 16, 23, 13⟩], ⟨0, 16, 27, 22⟩, [], 7, 2, rfl, List.forall_mem_cons.mpr ⟨⟨(by decide : ¬ 27 = 0), 1, by decide, by decide, by decide, wl_1⟩, List.forall_mem_cons.mpr ⟨⟨(by decide : ¬ 13 = 0), 2, by decide, by decide, by decide, wl_2⟩, fun _ h => absurd h List.not_mem_nil⟩⟩, by decide, (by decide : ¬ 22 = 0), by decide, by decide, wl_3, wc_3, Or.inl ⟨by decide +kernel, rfl⟩, Nat.le_of_ble_eq_true rfl, ?_⟩
      refine rL_law_29 ?_
      simp only [bL_law_29, run, Nat.reduceAdd, lg, st1, st2, lkill, lset, fvv, sfv, kind3, cat1, retI, retA, List.length_cons, List.length_nil, true_and, and_true, or_true, true_or, qL_law, not_true_eq_false, not_false_eq_true, false_implies, true_and, and_true, tti]
      exact q
    exact absurd e (by simp)
theorem qL_unlaw : mR mL_unlaw = (some FieldType.int) := rfl
theorem qCL_unlaw : mC mL_unlaw = 2 := rfl
theorem qSL_unlaw : mS mL_unlaw = 12 := rfl
def bL_unlaw_0 : List OP := [(.aload_n 2, 1, (2, 0, 0), vU), (.iconst 0, 1, (0, 0, 0), vI 0), (.aload_n 0, 1, (0, 0, 0), vU), (.iload_n 1, 1, (1, 0, 0), vU)]
theorem oL_unlaw_0 : okAt mL_unlaw bL_unlaw_0 0 = true := by decide +kernel
theorem rL_unlaw_0 {g : Gp} {Q : PQ} {L st : List AV} {h : AH} {u : Nat × Nat} (hr : run mL_unlaw Q (fun pc L st h u => Ex g mL_unlaw pc L st h u Q) bL_unlaw_0 0 L st h u) : Ex g mL_unlaw 0 L st h u Q := run_ok (M := mL_unlaw) cfL_ok (fun _ _ _ _ _ k => k) _ _ _ _ _ _ oL_unlaw_0 hr
def bL_unlaw_7 : List OP := [(.i2l, 1, (0, 0, 0), vU), (.lastore, 1, (0, 0, 0), vU), (.goto 9, 3, (18, 0, 0), vU), (.iconst 0, 1, (0, 0, 0), vI 0), (.ireturn, 1, (0, 0, 0), vU)]
theorem oL_unlaw_7 : okAt mL_unlaw bL_unlaw_7 7 = true := by decide +kernel
theorem rL_unlaw_7 {g : Gp} {Q : PQ} {L st : List AV} {h : AH} {u : Nat × Nat} (hr : run mL_unlaw Q (fun pc L st h u => Ex g mL_unlaw pc L st h u Q) bL_unlaw_7 7 L st h u) : Ex g mL_unlaw 7 L st h u Q := run_ok (M := mL_unlaw) cfL_ok (fun _ _ _ _ _ k => k) _ _ _ _ _ _ oL_unlaw_7 hr
def bL_unlaw_13 : List OP := [(.iconst 1, 1, (0, 0, 0), vI 1), (.ireturn, 1, (0, 0, 0), vU)]
theorem oL_unlaw_13 : okAt mL_unlaw bL_unlaw_13 13 = true := by decide +kernel
theorem rL_unlaw_13 {g : Gp} {Q : PQ} {L st : List AV} {h : AH} {u : Nat × Nat} (hr : run mL_unlaw Q (fun pc L st h u => Ex g mL_unlaw pc L st h u Q) bL_unlaw_13 13 L st h u) : Ex g mL_unlaw 13 L st h u Q := run_ok (M := mL_unlaw) cfL_ok (fun _ _ _ _ _ k => k) _ _ _ _ _ _ oL_unlaw_13 hr
def bL_unlaw_16 : List OP := [(.iconst 2, 1, (0, 0, 0), vI 2), (.ireturn, 1, (0, 0, 0), vU)]
theorem oL_unlaw_16 : okAt mL_unlaw bL_unlaw_16 16 = true := by decide +kernel
theorem rL_unlaw_16 {g : Gp} {Q : PQ} {L st : List AV} {h : AH} {u : Nat × Nat} (hr : run mL_unlaw Q (fun pc L st h u => Ex g mL_unlaw pc L st h u Q) bL_unlaw_16 16 L st h u) : Ex g mL_unlaw 16 L st h u Q := run_ok (M := mL_unlaw) cfL_ok (fun _ _ _ _ _ k => k) _ _ _ _ _ _ oL_unlaw_16 hr
theorem w_unlaw {g : Gp} {h : AH} {Q : PQ} {i1 : Int32} (hx : zK h 4 = (1, 9)) (ev : Ev g mX9_unlaw [vR 4, vI i1] h (WQ [1, 3] Q)) : Ev g mL_unlaw [vR 4, vI i1, vR 122] h Q := by
  have fin : ∀ (k : Ex g mL_unlaw 0 [vR 4, vI i1, vR 122, vU] [] h (0, 0) Q), Ev g mL_unlaw [vR 4, vI i1, vR 122] h Q := fun k => Ev.of (by decide +kernel) rfl (Nat.le_of_ble_eq_true rfl) k
  refine fin ?_
  refine rL_unlaw_0 ?_
  simp only [bL_unlaw_0, run, Nat.reduceAdd, lg, st1, st2, lkill, lset, fvv, sfv, kind3, cat1, retI, retA, List.length_cons, List.length_nil, true_and, and_true, or_true, true_or, qL_unlaw]
  refine Ex.callVX (av := [vI i1]) (rest := [vI 0, vR 122]) (r := (RX9, TX9, 10)) (N := mX9_unlaw) mX9_unlaw_ok rfl lkL_33 imX9_unlaw seX9_unlaw rfl hx (by decide) (by decide) (by decide) (Nat.le_of_ble_eq_true rfl) (by decide +kernel) ev (fun v h' q => ?_) (fun k h' q => ?_)
  · rcases v with _ | (v | v)
    · exact False.elim q
    · obtain ⟨k1, q⟩ := q
      refine Ex.wf (fun wf => ?_)
      refine rL_unlaw_7 ?_
      simp only [bL_unlaw_7, run, Nat.reduceAdd, lg, st1, st2, lkill, lset, fvv, sfv, kind3, cat1, retI, retA, List.length_cons, List.length_nil, true_and, and_true, or_true, true_or, qL_unlaw, Option.toList, List.cons_append, List.nil_append, k1, kL, kI, kD, kR, rL, rI, rD, iL, iD, iR, lI, lD, lR, not_true_eq_false, not_false_eq_true, false_implies, true_and, and_true, tti]
      exact ⟨vin01, q wf⟩
    · exact False.elim q
  · obtain ⟨j, e, q⟩ := q
    rcases j with _ | j
    · obtain rfl : 1 = k := Option.some.inj e
      refine ⟨[], ⟨0, 9, 12, 27⟩, [⟨0, 9, 15, 22⟩], 3, 1, rfl, fun z hz => absurd hz List.not_mem_nil, by decide, (by decide : ¬ 27 = 0), by decide, by decide, wl_1, wc_1, Or.inr ⟨3, rfl, by decide +kernel, rfl⟩, Nat.le_of_ble_eq_true rfl, ?_⟩
      refine rL_unlaw_13 ?_
      simp only [bL_unlaw_13, run, Nat.reduceAdd, lg, st1, st2, lkill, lset, fvv, sfv, kind3, cat1, retI, retA, List.length_cons, List.length_nil, true_and, and_true, or_true, true_or, qL_unlaw, not_true_eq_false, not_false_eq_true, false_implies, true_and, and_true, tti]
      exact q
    rcases j with _ | j
    · obtain rfl : 3 = k := Option.some.inj e
      refine ⟨[⟨0, 9, 12, 27⟩], ⟨0, 9, 15, 22⟩, [], 3, 1, rfl, List.forall_mem_cons.mpr ⟨⟨(by decide : ¬ 27 = 0), 1, by decide, by decide, by decide, wl_1⟩, fun _ h => absurd h List.not_mem_nil⟩, by decide, (by decide : ¬ 22 = 0), by decide, by decide, wl_3, wc_3, Or.inr ⟨3, rfl, by decide +kernel, rfl⟩, Nat.le_of_ble_eq_true rfl, ?_⟩
      refine rL_unlaw_16 ?_
      simp only [bL_unlaw_16, run, Nat.reduceAdd, lg, st1, st2, lkill, lset, fvv, sfv, kind3, cat1, retI, retA, List.length_cons, List.length_nil, true_and, and_true, or_true, true_or, qL_unlaw, not_true_eq_false, not_false_eq_true, false_implies, true_and, and_true, tti]
      exact q
    exact absurd e (by simp)
theorem qL_loan : mR mL_loan = (some FieldType.int) := rfl
theorem qCL_loan : mC mL_loan = 5 := rfl
theorem qSL_loan : mS mL_loan = 37 := rfl
def bL_loan_0 : List OP := [(.aload 5, 2, (5, 0, 0), vU), (.iconst 0, 1, (0, 0, 0), vI 0), (.aload_n 0, 1, (0, 0, 0), vU), (.iload_n 1, 1, (1, 0, 0), vU), (.iload_n 2, 1, (2, 0, 0), vU), (.iload_n 3, 1, (3, 0, 0), vU), (.iload 4, 2, (4, 0, 0), vU)]
theorem oL_loan_0 : okAt mL_loan bL_loan_0 0 = true := by decide +kernel
theorem rL_loan_0 {g : Gp} {Q : PQ} {L st : List AV} {h : AH} {u : Nat × Nat} (hr : run mL_loan Q (fun pc L st h u => Ex g mL_loan pc L st h u Q) bL_loan_0 0 L st h u) : Ex g mL_loan 0 L st h u Q := run_ok (M := mL_loan) cfL_ok (fun _ _ _ _ _ k => k) _ _ _ _ _ _ oL_loan_0 hr
def bL_loan_12 : List OP := [(.i2l, 1, (0, 0, 0), vU), (.lastore, 1, (0, 0, 0), vU), (.goto 15, 3, (29, 0, 0), vU), (.iconst 0, 1, (0, 0, 0), vI 0), (.ireturn, 1, (0, 0, 0), vU)]
theorem oL_loan_12 : okAt mL_loan bL_loan_12 12 = true := by decide +kernel
theorem rL_loan_12 {g : Gp} {Q : PQ} {L st : List AV} {h : AH} {u : Nat × Nat} (hr : run mL_loan Q (fun pc L st h u => Ex g mL_loan pc L st h u Q) bL_loan_12 12 L st h u) : Ex g mL_loan 12 L st h u Q := run_ok (M := mL_loan) cfL_ok (fun _ _ _ _ _ k => k) _ _ _ _ _ _ oL_loan_12 hr
def bL_loan_19 : List OP := [(.iconst 1, 1, (0, 0, 0), vI 1), (.ireturn, 1, (0, 0, 0), vU)]
theorem oL_loan_19 : okAt mL_loan bL_loan_19 19 = true := by decide +kernel
theorem rL_loan_19 {g : Gp} {Q : PQ} {L st : List AV} {h : AH} {u : Nat × Nat} (hr : run mL_loan Q (fun pc L st h u => Ex g mL_loan pc L st h u Q) bL_loan_19 19 L st h u) : Ex g mL_loan 19 L st h u Q := run_ok (M := mL_loan) cfL_ok (fun _ _ _ _ _ k => k) _ _ _ _ _ _ oL_loan_19 hr
def bL_loan_23 : List OP := [(.iconst 2, 1, (0, 0, 0), vI 2), (.ireturn, 1, (0, 0, 0), vU)]
theorem oL_loan_23 : okAt mL_loan bL_loan_23 23 = true := by decide +kernel
theorem rL_loan_23 {g : Gp} {Q : PQ} {L st : List AV} {h : AH} {u : Nat × Nat} (hr : run mL_loan Q (fun pc L st h u => Ex g mL_loan pc L st h u Q) bL_loan_23 23 L st h u) : Ex g mL_loan 23 L st h u Q := run_ok (M := mL_loan) cfL_ok (fun _ _ _ _ _ k => k) _ _ _ _ _ _ oL_loan_23 hr
def bL_loan_27 : List OP := [(.iconst 3, 1, (0, 0, 0), vI 3), (.ireturn, 1, (0, 0, 0), vU)]
theorem oL_loan_27 : okAt mL_loan bL_loan_27 27 = true := by decide +kernel
theorem rL_loan_27 {g : Gp} {Q : PQ} {L st : List AV} {h : AH} {u : Nat × Nat} (hr : run mL_loan Q (fun pc L st h u => Ex g mL_loan pc L st h u Q) bL_loan_27 27 L st h u) : Ex g mL_loan 27 L st h u Q := run_ok (M := mL_loan) cfL_ok (fun _ _ _ _ _ k => k) _ _ _ _ _ _ oL_loan_27 hr
theorem w_loan {g : Gp} {h : AH} {Q : PQ} {i1 i2 i3 i4 : Int32} (hx : zK h 4 = (1, 9)) (ev : Ev g mX9_loan [vR 4, vI i1, vI i2, vI i3, vI i4] h (WQ [1, 2, 3] Q)) : Ev g mL_loan [vR 4, vI i1, vI i2, vI i3, vI i4, vR 122] h Q := by
  have fin : ∀ (k : Ex g mL_loan 0 [vR 4, vI i1, vI i2, vI i3, vI i4, vR 122, vU] [] h (0, 0) Q), Ev g mL_loan [vR 4, vI i1, vI i2, vI i3, vI i4, vR 122] h Q := fun k => Ev.of (by decide +kernel) rfl (Nat.le_of_ble_eq_true rfl) k
  refine fin ?_
  refine rL_loan_0 ?_
  simp only [bL_loan_0, run, Nat.reduceAdd, lg, st1, st2, lkill, lset, fvv, sfv, kind3, cat1, retI, retA, List.length_cons, List.length_nil, true_and, and_true, or_true, true_or, qL_loan]
  refine Ex.callVX (av := [vI i1, vI i2, vI i3, vI i4]) (rest := [vI 0, vR 122]) (r := (RX9, TX9, 10)) (N := mX9_loan) mX9_loan_ok rfl lkL_36 imX9_loan seX9_loan rfl hx (by decide) (by decide) (by decide) (Nat.le_of_ble_eq_true rfl) (by decide +kernel) ev (fun v h' q => ?_) (fun k h' q => ?_)
  · rcases v with _ | (v | v)
    · exact False.elim q
    · obtain ⟨k1, q⟩ := q
      refine Ex.wf (fun wf => ?_)
      refine rL_loan_12 ?_
      simp only [bL_loan_12, run, Nat.reduceAdd, lg, st1, st2, lkill, lset, fvv, sfv, kind3, cat1, retI, retA, List.length_cons, List.length_nil, true_and, and_true, or_true, true_or, qL_loan, Option.toList, List.cons_append, List.nil_append, k1, kL, kI, kD, kR, rL, rI, rD, iL, iD, iR, lI, lD, lR, not_true_eq_false, not_false_eq_true, false_implies, true_and, and_true, tti]
      exact ⟨vin01, q wf⟩
    · exact False.elim q
  · obtain ⟨j, e, q⟩ := q
    rcases j with _ | j
    · obtain rfl : 1 = k := Option.some.inj e
      refine ⟨[], ⟨0, 14, 17, 27⟩, [⟨0, 14, 21, 13⟩, ⟨0, 14, 25, 22⟩], 6, 2, rfl, fun z hz => absurd hz List.not_mem_nil, by decide, (by decide : ¬ 27 = 0), by decide, by decide, wl_1, wc_1, Or.inl ⟨by decide +kernel, rfl⟩, Nat.le_of_ble_eq_true rfl, ?_⟩
      refine rL_loan_19 ?_
      simp only [bL_loan_19, run, Nat.reduceAdd, lg, st1, st2, lkill, lset, fvv, sfv, kind3, cat1, retI, retA, List.length_cons, List.length_nil, true_and, and_true, or_true, true_or, qL_loan, not_true_eq_false, not_false_eq_true, false_implies, true_and, and_true, tti]
      exact q
    rcases j with _ | j
    · obtain rfl : 2 = k := Option.some.inj e
      refine ⟨[⟨0, 14, 17, 27⟩], ⟨0, 14, 21, 13⟩, [⟨0, 14, 25, 22⟩], 6, 2, rfl, List.forall_mem_cons.mpr ⟨⟨(by decide : ¬ 27 = 0), 1, by decide, by decide, by decide, wl_1⟩, fun _ h => absurd h List.not_mem_nil⟩, by decide, (by decide : ¬ 13 = 0), by decide, by decide, wl_2, wc_2, Or.inl ⟨by decide +kernel, rfl⟩, Nat.le_of_ble_eq_true rfl, ?_⟩
      refine rL_loan_23 ?_
      simp only [bL_loan_23, run, Nat.reduceAdd, lg, st1, st2, lkill, lset, fvv, sfv, kind3, cat1, retI, retA, List.length_cons, List.length_nil, true_and, and_true, or_true, true_or, qL_loan, not_true_eq_false, not_false_eq_true, false_implies, true_and, and_true, tti]
      exact q
    rcases j with _ | j
    · obtain rfl : 3 = k := Option.some.inj e
      refine ⟨[⟨0, 14, 17, 27⟩, ⟨0, 14, 21, 13⟩], ⟨0, 14, 25, 22⟩, [], 6, 2, rfl, List.forall_mem_cons.mpr ⟨⟨(by decide : ¬ 27 = 0), 1, by decide, by decide, by decide, wl_1⟩, List.forall_mem_cons.mpr ⟨⟨(by decide : ¬ 13 = 0), 2, by decide, by decide, by decide, wl_2⟩, fun _ h => absurd h List.not_mem_nil⟩⟩, by decide, (by decide : ¬ 22 = 0), by decide, by decide, wl_3, wc_3, Or.inl ⟨by decide +kernel, rfl⟩, Nat.le_of_ble_eq_true rfl, ?_⟩
      refine rL_loan_27 ?_
      simp only [bL_loan_27, run, Nat.reduceAdd, lg, st1, st2, lkill, lset, fvv, sfv, kind3, cat1, retI, retA, List.length_cons, List.length_nil, true_and, and_true, or_true, true_or, qL_loan, not_true_eq_false, not_false_eq_true, false_implies, true_and, and_true, tti]
      exact q
    exact absurd e (by simp)
theorem qL_laws : mR mL_laws = (some FieldType.int) := rfl
theorem qCL_laws : mC mL_laws = 1 := rfl
theorem qSL_laws : mS mL_laws = 6 := rfl
def bL_laws_0 : List OP := [(.aload_n 2, 1, (2, 0, 0), vU), (.iconst 0, 1, (0, 0, 0), vI 0), (.aload_n 0, 1, (0, 0, 0), vU), (.iload_n 1, 1, (1, 0, 0), vU)]
theorem oL_laws_0 : okAt mL_laws bL_laws_0 0 = true := by decide +kernel
theorem rL_laws_0 {g : Gp} {Q : PQ} {L st : List AV} {h : AH} {u : Nat × Nat} (hr : run mL_laws Q (fun pc L st h u => Ex g mL_laws pc L st h u Q) bL_laws_0 0 L st h u) : Ex g mL_laws 0 L st h u Q := run_ok (M := mL_laws) cfL_ok (fun _ _ _ _ _ k => k) _ _ _ _ _ _ oL_laws_0 hr
def bL_laws_7 : List OP := [(.i2l, 1, (0, 0, 0), vU), (.lastore, 1, (0, 0, 0), vU), (.goto 6, 3, (15, 0, 0), vU), (.iconst 0, 1, (0, 0, 0), vI 0), (.ireturn, 1, (0, 0, 0), vU)]
theorem oL_laws_7 : okAt mL_laws bL_laws_7 7 = true := by decide +kernel
theorem rL_laws_7 {g : Gp} {Q : PQ} {L st : List AV} {h : AH} {u : Nat × Nat} (hr : run mL_laws Q (fun pc L st h u => Ex g mL_laws pc L st h u Q) bL_laws_7 7 L st h u) : Ex g mL_laws 7 L st h u Q := run_ok (M := mL_laws) cfL_ok (fun _ _ _ _ _ k => k) _ _ _ _ _ _ oL_laws_7 hr
def bL_laws_13 : List OP := [(.iconst 1, 1, (0, 0, 0), vI 1), (.ireturn, 1, (0, 0, 0), vU)]
theorem oL_laws_13 : okAt mL_laws bL_laws_13 13 = true := by decide +kernel
theorem rL_laws_13 {g : Gp} {Q : PQ} {L st : List AV} {h : AH} {u : Nat × Nat} (hr : run mL_laws Q (fun pc L st h u => Ex g mL_laws pc L st h u Q) bL_laws_13 13 L st h u) : Ex g mL_laws 13 L st h u Q := run_ok (M := mL_laws) cfL_ok (fun _ _ _ _ _ k => k) _ _ _ _ _ _ oL_laws_13 hr
theorem w_laws {g : Gp} {h : AH} {Q : PQ} {i1 : Int32} (hx : zK h 4 = (1, 9)) (ev : Ev g mX9_laws [vR 4, vI i1] h (WQ [1] Q)) : Ev g mL_laws [vR 4, vI i1, vR 122] h Q := by
  have fin : ∀ (k : Ex g mL_laws 0 [vR 4, vI i1, vR 122, vU] [] h (0, 0) Q), Ev g mL_laws [vR 4, vI i1, vR 122] h Q := fun k => Ev.of (by decide +kernel) rfl (Nat.le_of_ble_eq_true rfl) k
  refine fin ?_
  refine rL_laws_0 ?_
  simp only [bL_laws_0, run, Nat.reduceAdd, lg, st1, st2, lkill, lset, fvv, sfv, kind3, cat1, retI, retA, List.length_cons, List.length_nil, true_and, and_true, or_true, true_or, qL_laws]
  refine Ex.callVX (av := [vI i1]) (rest := [vI 0, vR 122]) (r := (RX9, TX9, 10)) (N := mX9_laws) mX9_laws_ok rfl lkL_40 imX9_laws seX9_laws rfl hx (by decide) (by decide) (by decide) (Nat.le_of_ble_eq_true rfl) (by decide +kernel) ev (fun v h' q => ?_) (fun k h' q => ?_)
  · rcases v with _ | (v | v)
    · exact False.elim q
    · obtain ⟨k1, q⟩ := q
      refine Ex.wf (fun wf => ?_)
      refine rL_laws_7 ?_
      simp only [bL_laws_7, run, Nat.reduceAdd, lg, st1, st2, lkill, lset, fvv, sfv, kind3, cat1, retI, retA, List.length_cons, List.length_nil, true_and, and_true, or_true, true_or, qL_laws, Option.toList, List.cons_append, List.nil_append, k1, kL, kI, kD, kR, rL, rI, rD, iL, iD, iR, lI, lD, lR, not_true_eq_false, not_false_eq_true, false_implies, true_and, and_true, tti]
      exact ⟨vin01, q wf⟩
    · exact False.elim q
  · obtain ⟨j, e, q⟩ := q
    rcases j with _ | j
    · obtain rfl : 1 = k := Option.some.inj e
      refine ⟨[], ⟨0, 9, 12, 27⟩, [], 3, 1, rfl, fun z hz => absurd hz List.not_mem_nil, by decide, (by decide : ¬ 27 = 0), by decide, by decide, wl_1, wc_1, Or.inr ⟨3, rfl, by decide +kernel, rfl⟩, Nat.le_of_ble_eq_true rfl, ?_⟩
      refine rL_laws_13 ?_
      simp only [bL_laws_13, run, Nat.reduceAdd, lg, st1, st2, lkill, lset, fvv, sfv, kind3, cat1, retI, retA, List.length_cons, List.length_nil, true_and, and_true, or_true, true_or, qL_laws, not_true_eq_false, not_false_eq_true, false_implies, true_and, and_true, tti]
      exact q
    exact absurd e (by simp)
theorem qL_common : mR mL_common = (some FieldType.int) := rfl
theorem qCL_common : mC mL_common = 1 := rfl
theorem qSL_common : mS mL_common = 6 := rfl
def bL_common_0 : List OP := [(.aload_n 3, 1, (3, 0, 0), vU), (.iconst 0, 1, (0, 0, 0), vI 0), (.aload_n 0, 1, (0, 0, 0), vU), (.iload_n 1, 1, (1, 0, 0), vU), (.iload_n 2, 1, (2, 0, 0), vU)]
theorem oL_common_0 : okAt mL_common bL_common_0 0 = true := by decide +kernel
theorem rL_common_0 {g : Gp} {Q : PQ} {L st : List AV} {h : AH} {u : Nat × Nat} (hr : run mL_common Q (fun pc L st h u => Ex g mL_common pc L st h u Q) bL_common_0 0 L st h u) : Ex g mL_common 0 L st h u Q := run_ok (M := mL_common) cfL_ok (fun _ _ _ _ _ k => k) _ _ _ _ _ _ oL_common_0 hr
def bL_common_8 : List OP := [(.i2l, 1, (0, 0, 0), vU), (.lastore, 1, (0, 0, 0), vU), (.goto 7, 3, (17, 0, 0), vU), (.iconst 0, 1, (0, 0, 0), vI 0), (.ireturn, 1, (0, 0, 0), vU)]
theorem oL_common_8 : okAt mL_common bL_common_8 8 = true := by decide +kernel
theorem rL_common_8 {g : Gp} {Q : PQ} {L st : List AV} {h : AH} {u : Nat × Nat} (hr : run mL_common Q (fun pc L st h u => Ex g mL_common pc L st h u Q) bL_common_8 8 L st h u) : Ex g mL_common 8 L st h u Q := run_ok (M := mL_common) cfL_ok (fun _ _ _ _ _ k => k) _ _ _ _ _ _ oL_common_8 hr
def bL_common_15 : List OP := [(.iconst 1, 1, (0, 0, 0), vI 1), (.ireturn, 1, (0, 0, 0), vU)]
theorem oL_common_15 : okAt mL_common bL_common_15 15 = true := by decide +kernel
theorem rL_common_15 {g : Gp} {Q : PQ} {L st : List AV} {h : AH} {u : Nat × Nat} (hr : run mL_common Q (fun pc L st h u => Ex g mL_common pc L st h u Q) bL_common_15 15 L st h u) : Ex g mL_common 15 L st h u Q := run_ok (M := mL_common) cfL_ok (fun _ _ _ _ _ k => k) _ _ _ _ _ _ oL_common_15 hr
theorem w_common {g : Gp} {h : AH} {Q : PQ} {i1 i2 : Int32} (hx : zK h 4 = (1, 9)) (ev : Ev g mX9_common [vR 4, vI i1, vI i2] h (WQ [1] Q)) : Ev g mL_common [vR 4, vI i1, vI i2, vR 122] h Q := by
  have fin : ∀ (k : Ex g mL_common 0 [vR 4, vI i1, vI i2, vR 122, vU] [] h (0, 0) Q), Ev g mL_common [vR 4, vI i1, vI i2, vR 122] h Q := fun k => Ev.of (by decide +kernel) rfl (Nat.le_of_ble_eq_true rfl) k
  refine fin ?_
  refine rL_common_0 ?_
  simp only [bL_common_0, run, Nat.reduceAdd, lg, st1, st2, lkill, lset, fvv, sfv, kind3, cat1, retI, retA, List.length_cons, List.length_nil, true_and, and_true, or_true, true_or, qL_common]
  refine Ex.callVX (av := [vI i1, vI i2]) (rest := [vI 0, vR 122]) (r := (RX9, TX9, 10)) (N := mX9_common) mX9_common_ok rfl lkL_43 imX9_common seX9_common rfl hx (by decide) (by decide) (by decide) (Nat.le_of_ble_eq_true rfl) (by decide +kernel) ev (fun v h' q => ?_) (fun k h' q => ?_)
  · rcases v with _ | (v | v)
    · exact False.elim q
    · obtain ⟨k1, q⟩ := q
      refine Ex.wf (fun wf => ?_)
      refine rL_common_8 ?_
      simp only [bL_common_8, run, Nat.reduceAdd, lg, st1, st2, lkill, lset, fvv, sfv, kind3, cat1, retI, retA, List.length_cons, List.length_nil, true_and, and_true, or_true, true_or, qL_common, Option.toList, List.cons_append, List.nil_append, k1, kL, kI, kD, kR, rL, rI, rD, iL, iD, iR, lI, lD, lR, not_true_eq_false, not_false_eq_true, false_implies, true_and, and_true, tti]
      exact ⟨vin01, q wf⟩
    · exact False.elim q
  · obtain ⟨j, e, q⟩ := q
    rcases j with _ | j
    · obtain rfl : 1 = k := Option.some.inj e
      refine ⟨[], ⟨0, 10, 13, 27⟩, [], 4, 2, rfl, fun z hz => absurd hz List.not_mem_nil, by decide, (by decide : ¬ 27 = 0), by decide, by decide, wl_1, wc_1, Or.inl ⟨by decide +kernel, rfl⟩, Nat.le_of_ble_eq_true rfl, ?_⟩
      refine rL_common_15 ?_
      simp only [bL_common_15, run, Nat.reduceAdd, lg, st1, st2, lkill, lset, fvv, sfv, kind3, cat1, retI, retA, List.length_cons, List.length_nil, true_and, and_true, or_true, true_or, qL_common, not_true_eq_false, not_false_eq_true, false_implies, true_and, and_true, tti]
      exact q
    exact absurd e (by simp)
theorem qL_length : mR mL_length = (some FieldType.int) := rfl
theorem qCL_length : mC mL_length = 1 := rfl
theorem qSL_length : mS mL_length = 6 := rfl
def bL_length_0 : List OP := [(.aload_n 3, 1, (3, 0, 0), vU), (.iconst 0, 1, (0, 0, 0), vI 0), (.aload_n 0, 1, (0, 0, 0), vU), (.iload_n 1, 1, (1, 0, 0), vU), (.iload_n 2, 1, (2, 0, 0), vU)]
theorem oL_length_0 : okAt mL_length bL_length_0 0 = true := by decide +kernel
theorem rL_length_0 {g : Gp} {Q : PQ} {L st : List AV} {h : AH} {u : Nat × Nat} (hr : run mL_length Q (fun pc L st h u => Ex g mL_length pc L st h u Q) bL_length_0 0 L st h u) : Ex g mL_length 0 L st h u Q := run_ok (M := mL_length) cfL_ok (fun _ _ _ _ _ k => k) _ _ _ _ _ _ oL_length_0 hr
def bL_length_8 : List OP := [(.i2l, 1, (0, 0, 0), vU), (.lastore, 1, (0, 0, 0), vU), (.goto 7, 3, (17, 0, 0), vU), (.iconst 0, 1, (0, 0, 0), vI 0), (.ireturn, 1, (0, 0, 0), vU)]
theorem oL_length_8 : okAt mL_length bL_length_8 8 = true := by decide +kernel
theorem rL_length_8 {g : Gp} {Q : PQ} {L st : List AV} {h : AH} {u : Nat × Nat} (hr : run mL_length Q (fun pc L st h u => Ex g mL_length pc L st h u Q) bL_length_8 8 L st h u) : Ex g mL_length 8 L st h u Q := run_ok (M := mL_length) cfL_ok (fun _ _ _ _ _ k => k) _ _ _ _ _ _ oL_length_8 hr
def bL_length_15 : List OP := [(.iconst 1, 1, (0, 0, 0), vI 1), (.ireturn, 1, (0, 0, 0), vU)]
theorem oL_length_15 : okAt mL_length bL_length_15 15 = true := by decide +kernel
theorem rL_length_15 {g : Gp} {Q : PQ} {L st : List AV} {h : AH} {u : Nat × Nat} (hr : run mL_length Q (fun pc L st h u => Ex g mL_length pc L st h u Q) bL_length_15 15 L st h u) : Ex g mL_length 15 L st h u Q := run_ok (M := mL_length) cfL_ok (fun _ _ _ _ _ k => k) _ _ _ _ _ _ oL_length_15 hr
theorem w_length {g : Gp} {h : AH} {Q : PQ} {i1 i2 : Int32} (hx : zK h 4 = (1, 9)) (ev : Ev g mX9_length [vR 4, vI i1, vI i2] h (WQ [1] Q)) : Ev g mL_length [vR 4, vI i1, vI i2, vR 122] h Q := by
  have fin : ∀ (k : Ex g mL_length 0 [vR 4, vI i1, vI i2, vR 122, vU] [] h (0, 0) Q), Ev g mL_length [vR 4, vI i1, vI i2, vR 122] h Q := fun k => Ev.of (by decide +kernel) rfl (Nat.le_of_ble_eq_true rfl) k
  refine fin ?_
  refine rL_length_0 ?_
  simp only [bL_length_0, run, Nat.reduceAdd, lg, st1, st2, lkill, lset, fvv, sfv, kind3, cat1, retI, retA, List.length_cons, List.length_nil, true_and, and_true, or_true, true_or, qL_length]
  refine Ex.callVX (av := [vI i1, vI i2]) (rest := [vI 0, vR 122]) (r := (RX9, TX9, 10)) (N := mX9_length) mX9_length_ok rfl lkL_46 imX9_length seX9_length rfl hx (by decide) (by decide) (by decide) (Nat.le_of_ble_eq_true rfl) (by decide +kernel) ev (fun v h' q => ?_) (fun k h' q => ?_)
  · rcases v with _ | (v | v)
    · exact False.elim q
    · obtain ⟨k1, q⟩ := q
      refine Ex.wf (fun wf => ?_)
      refine rL_length_8 ?_
      simp only [bL_length_8, run, Nat.reduceAdd, lg, st1, st2, lkill, lset, fvv, sfv, kind3, cat1, retI, retA, List.length_cons, List.length_nil, true_and, and_true, or_true, true_or, qL_length, Option.toList, List.cons_append, List.nil_append, k1, kL, kI, kD, kR, rL, rI, rD, iL, iD, iR, lI, lD, lR, not_true_eq_false, not_false_eq_true, false_implies, true_and, and_true, tti]
      exact ⟨vin01, q wf⟩
    · exact False.elim q
  · obtain ⟨j, e, q⟩ := q
    rcases j with _ | j
    · obtain rfl : 1 = k := Option.some.inj e
      refine ⟨[], ⟨0, 10, 13, 27⟩, [], 4, 2, rfl, fun z hz => absurd hz List.not_mem_nil, by decide, (by decide : ¬ 27 = 0), by decide, by decide, wl_1, wc_1, Or.inl ⟨by decide +kernel, rfl⟩, Nat.le_of_ble_eq_true rfl, ?_⟩
      refine rL_length_15 ?_
      simp only [bL_length_15, run, Nat.reduceAdd, lg, st1, st2, lkill, lset, fvv, sfv, kind3, cat1, retI, retA, List.length_cons, List.length_nil, true_and, and_true, or_true, true_or, qL_length, not_true_eq_false, not_false_eq_true, false_implies, true_and, and_true, tti]
      exact q
    exact absurd e (by simp)
theorem qL_soundAt : mR mL_soundAt = (some FieldType.int) := rfl
theorem qCL_soundAt : mC mL_soundAt = 2 := rfl
theorem qSL_soundAt : mS mL_soundAt = 12 := rfl
def bL_soundAt_0 : List OP := [(.aload 4, 2, (4, 0, 0), vU), (.iconst 0, 1, (0, 0, 0), vI 0), (.aload_n 0, 1, (0, 0, 0), vU), (.iload_n 1, 1, (1, 0, 0), vU), (.iload_n 2, 1, (2, 0, 0), vU), (.iload_n 3, 1, (3, 0, 0), vU)]
theorem oL_soundAt_0 : okAt mL_soundAt bL_soundAt_0 0 = true := by decide +kernel
theorem rL_soundAt_0 {g : Gp} {Q : PQ} {L st : List AV} {h : AH} {u : Nat × Nat} (hr : run mL_soundAt Q (fun pc L st h u => Ex g mL_soundAt pc L st h u Q) bL_soundAt_0 0 L st h u) : Ex g mL_soundAt 0 L st h u Q := run_ok (M := mL_soundAt) cfL_ok (fun _ _ _ _ _ k => k) _ _ _ _ _ _ oL_soundAt_0 hr
def bL_soundAt_10 : List OP := [(.i2l, 1, (0, 0, 0), vU), (.lastore, 1, (0, 0, 0), vU), (.goto 7, 3, (19, 0, 0), vU), (.iconst 0, 1, (0, 0, 0), vI 0), (.ireturn, 1, (0, 0, 0), vU)]
theorem oL_soundAt_10 : okAt mL_soundAt bL_soundAt_10 10 = true := by decide +kernel
theorem rL_soundAt_10 {g : Gp} {Q : PQ} {L st : List AV} {h : AH} {u : Nat × Nat} (hr : run mL_soundAt Q (fun pc L st h u => Ex g mL_soundAt pc L st h u Q) bL_soundAt_10 10 L st h u) : Ex g mL_soundAt 10 L st h u Q := run_ok (M := mL_soundAt) cfL_ok (fun _ _ _ _ _ k => k) _ _ _ _ _ _ oL_soundAt_10 hr
def bL_soundAt_17 : List OP := [(.iconst 1, 1, (0, 0, 0), vI 1), (.ireturn, 1, (0, 0, 0), vU)]
theorem oL_soundAt_17 : okAt mL_soundAt bL_soundAt_17 17 = true := by decide +kernel
theorem rL_soundAt_17 {g : Gp} {Q : PQ} {L st : List AV} {h : AH} {u : Nat × Nat} (hr : run mL_soundAt Q (fun pc L st h u => Ex g mL_soundAt pc L st h u Q) bL_soundAt_17 17 L st h u) : Ex g mL_soundAt 17 L st h u Q := run_ok (M := mL_soundAt) cfL_ok (fun _ _ _ _ _ k => k) _ _ _ _ _ _ oL_soundAt_17 hr
theorem w_soundAt {g : Gp} {h : AH} {Q : PQ} {i1 i2 i3 : Int32} (hx : zK h 4 = (1, 9)) (ev : Ev g mX9_soundAt [vR 4, vI i1, vI i2, vI i3] h (WQ [1] Q)) : Ev g mL_soundAt [vR 4, vI i1, vI i2, vI i3, vR 122] h Q := by
  have fin : ∀ (k : Ex g mL_soundAt 0 [vR 4, vI i1, vI i2, vI i3, vR 122, vU] [] h (0, 0) Q), Ev g mL_soundAt [vR 4, vI i1, vI i2, vI i3, vR 122] h Q := fun k => Ev.of (by decide +kernel) rfl (Nat.le_of_ble_eq_true rfl) k
  refine fin ?_
  refine rL_soundAt_0 ?_
  simp only [bL_soundAt_0, run, Nat.reduceAdd, lg, st1, st2, lkill, lset, fvv, sfv, kind3, cat1, retI, retA, List.length_cons, List.length_nil, true_and, and_true, or_true, true_or, qL_soundAt]
  refine Ex.callVX (av := [vI i1, vI i2, vI i3]) (rest := [vI 0, vR 122]) (r := (RX9, TX9, 10)) (N := mX9_soundAt) mX9_soundAt_ok rfl lkL_49 imX9_soundAt seX9_soundAt rfl hx (by decide) (by decide) (by decide) (Nat.le_of_ble_eq_true rfl) (by decide +kernel) ev (fun v h' q => ?_) (fun k h' q => ?_)
  · rcases v with _ | (v | v)
    · exact False.elim q
    · obtain ⟨k1, q⟩ := q
      refine Ex.wf (fun wf => ?_)
      refine rL_soundAt_10 ?_
      simp only [bL_soundAt_10, run, Nat.reduceAdd, lg, st1, st2, lkill, lset, fvv, sfv, kind3, cat1, retI, retA, List.length_cons, List.length_nil, true_and, and_true, or_true, true_or, qL_soundAt, Option.toList, List.cons_append, List.nil_append, k1, kL, kI, kD, kR, rL, rI, rD, iL, iD, iR, lI, lD, lR, not_true_eq_false, not_false_eq_true, false_implies, true_and, and_true, tti]
      exact ⟨vin01, q wf⟩
    · exact False.elim q
  · obtain ⟨j, e, q⟩ := q
    rcases j with _ | j
    · obtain rfl : 1 = k := Option.some.inj e
      refine ⟨[], ⟨0, 12, 15, 27⟩, [], 5, 2, rfl, fun z hz => absurd hz List.not_mem_nil, by decide, (by decide : ¬ 27 = 0), by decide, by decide, wl_1, wc_1, Or.inl ⟨by decide +kernel, rfl⟩, Nat.le_of_ble_eq_true rfl, ?_⟩
      refine rL_soundAt_17 ?_
      simp only [bL_soundAt_17, run, Nat.reduceAdd, lg, st1, st2, lkill, lset, fvv, sfv, kind3, cat1, retI, retA, List.length_cons, List.length_nil, true_and, and_true, or_true, true_or, qL_soundAt, not_true_eq_false, not_false_eq_true, false_implies, true_and, and_true, tti]
      exact q
    exact absurd e (by simp)
theorem qL_origin : mR mL_origin = (some FieldType.int) := rfl
theorem qCL_origin : mC mL_origin = 1 := rfl
theorem qSL_origin : mS mL_origin = 6 := rfl
def bL_origin_0 : List OP := [(.aload_n 3, 1, (3, 0, 0), vU), (.iconst 0, 1, (0, 0, 0), vI 0), (.aload_n 0, 1, (0, 0, 0), vU), (.iload_n 1, 1, (1, 0, 0), vU), (.iload_n 2, 1, (2, 0, 0), vU)]
theorem oL_origin_0 : okAt mL_origin bL_origin_0 0 = true := by decide +kernel
theorem rL_origin_0 {g : Gp} {Q : PQ} {L st : List AV} {h : AH} {u : Nat × Nat} (hr : run mL_origin Q (fun pc L st h u => Ex g mL_origin pc L st h u Q) bL_origin_0 0 L st h u) : Ex g mL_origin 0 L st h u Q := run_ok (M := mL_origin) cfL_ok (fun _ _ _ _ _ k => k) _ _ _ _ _ _ oL_origin_0 hr
def bL_origin_8 : List OP := [(.i2l, 1, (0, 0, 0), vU), (.lastore, 1, (0, 0, 0), vU), (.goto 7, 3, (17, 0, 0), vU), (.iconst 0, 1, (0, 0, 0), vI 0), (.ireturn, 1, (0, 0, 0), vU)]
theorem oL_origin_8 : okAt mL_origin bL_origin_8 8 = true := by decide +kernel
theorem rL_origin_8 {g : Gp} {Q : PQ} {L st : List AV} {h : AH} {u : Nat × Nat} (hr : run mL_origin Q (fun pc L st h u => Ex g mL_origin pc L st h u Q) bL_origin_8 8 L st h u) : Ex g mL_origin 8 L st h u Q := run_ok (M := mL_origin) cfL_ok (fun _ _ _ _ _ k => k) _ _ _ _ _ _ oL_origin_8 hr
def bL_origin_15 : List OP := [(.iconst 1, 1, (0, 0, 0), vI 1), (.ireturn, 1, (0, 0, 0), vU)]
theorem oL_origin_15 : okAt mL_origin bL_origin_15 15 = true := by decide +kernel
theorem rL_origin_15 {g : Gp} {Q : PQ} {L st : List AV} {h : AH} {u : Nat × Nat} (hr : run mL_origin Q (fun pc L st h u => Ex g mL_origin pc L st h u Q) bL_origin_15 15 L st h u) : Ex g mL_origin 15 L st h u Q := run_ok (M := mL_origin) cfL_ok (fun _ _ _ _ _ k => k) _ _ _ _ _ _ oL_origin_15 hr
theorem w_origin {g : Gp} {h : AH} {Q : PQ} {i1 i2 : Int32} (hx : zK h 4 = (1, 9)) (ev : Ev g mX9_origin [vR 4, vI i1, vI i2] h (WQ [1] Q)) : Ev g mL_origin [vR 4, vI i1, vI i2, vR 122] h Q := by
  have fin : ∀ (k : Ex g mL_origin 0 [vR 4, vI i1, vI i2, vR 122, vU] [] h (0, 0) Q), Ev g mL_origin [vR 4, vI i1, vI i2, vR 122] h Q := fun k => Ev.of (by decide +kernel) rfl (Nat.le_of_ble_eq_true rfl) k
  refine fin ?_
  refine rL_origin_0 ?_
  simp only [bL_origin_0, run, Nat.reduceAdd, lg, st1, st2, lkill, lset, fvv, sfv, kind3, cat1, retI, retA, List.length_cons, List.length_nil, true_and, and_true, or_true, true_or, qL_origin]
  refine Ex.callVX (av := [vI i1, vI i2]) (rest := [vI 0, vR 122]) (r := (RX9, TX9, 10)) (N := mX9_origin) mX9_origin_ok rfl lkL_53 imX9_origin seX9_origin rfl hx (by decide) (by decide) (by decide) (Nat.le_of_ble_eq_true rfl) (by decide +kernel) ev (fun v h' q => ?_) (fun k h' q => ?_)
  · rcases v with _ | (v | v)
    · exact False.elim q
    · obtain ⟨k1, q⟩ := q
      refine Ex.wf (fun wf => ?_)
      refine rL_origin_8 ?_
      simp only [bL_origin_8, run, Nat.reduceAdd, lg, st1, st2, lkill, lset, fvv, sfv, kind3, cat1, retI, retA, List.length_cons, List.length_nil, true_and, and_true, or_true, true_or, qL_origin, Option.toList, List.cons_append, List.nil_append, k1, kL, kI, kD, kR, rL, rI, rD, iL, iD, iR, lI, lD, lR, not_true_eq_false, not_false_eq_true, false_implies, true_and, and_true, tti]
      exact ⟨vin01, q wf⟩
    · exact False.elim q
  · obtain ⟨j, e, q⟩ := q
    rcases j with _ | j
    · obtain rfl : 1 = k := Option.some.inj e
      refine ⟨[], ⟨0, 10, 13, 27⟩, [], 4, 2, rfl, fun z hz => absurd hz List.not_mem_nil, by decide, (by decide : ¬ 27 = 0), by decide, by decide, wl_1, wc_1, Or.inl ⟨by decide +kernel, rfl⟩, Nat.le_of_ble_eq_true rfl, ?_⟩
      refine rL_origin_15 ?_
      simp only [bL_origin_15, run, Nat.reduceAdd, lg, st1, st2, lkill, lset, fvv, sfv, kind3, cat1, retI, retA, List.length_cons, List.length_nil, true_and, and_true, or_true, true_or, qL_origin, not_true_eq_false, not_false_eq_true, false_implies, true_and, and_true, tti]
      exact q
    exact absurd e (by simp)
theorem qL_changedBy : mR mL_changedBy = (some FieldType.int) := rfl
theorem qCL_changedBy : mC mL_changedBy = 1 := rfl
theorem qSL_changedBy : mS mL_changedBy = 6 := rfl
def bL_changedBy_0 : List OP := [(.aload_n 3, 1, (3, 0, 0), vU), (.iconst 0, 1, (0, 0, 0), vI 0), (.aload_n 0, 1, (0, 0, 0), vU), (.iload_n 1, 1, (1, 0, 0), vU), (.iload_n 2, 1, (2, 0, 0), vU)]
theorem oL_changedBy_0 : okAt mL_changedBy bL_changedBy_0 0 = true := by decide +kernel
theorem rL_changedBy_0 {g : Gp} {Q : PQ} {L st : List AV} {h : AH} {u : Nat × Nat} (hr : run mL_changedBy Q (fun pc L st h u => Ex g mL_changedBy pc L st h u Q) bL_changedBy_0 0 L st h u) : Ex g mL_changedBy 0 L st h u Q := run_ok (M := mL_changedBy) cfL_ok (fun _ _ _ _ _ k => k) _ _ _ _ _ _ oL_changedBy_0 hr
def bL_changedBy_8 : List OP := [(.i2l, 1, (0, 0, 0), vU), (.lastore, 1, (0, 0, 0), vU), (.goto 7, 3, (17, 0, 0), vU), (.iconst 0, 1, (0, 0, 0), vI 0), (.ireturn, 1, (0, 0, 0), vU)]
theorem oL_changedBy_8 : okAt mL_changedBy bL_changedBy_8 8 = true := by decide +kernel
theorem rL_changedBy_8 {g : Gp} {Q : PQ} {L st : List AV} {h : AH} {u : Nat × Nat} (hr : run mL_changedBy Q (fun pc L st h u => Ex g mL_changedBy pc L st h u Q) bL_changedBy_8 8 L st h u) : Ex g mL_changedBy 8 L st h u Q := run_ok (M := mL_changedBy) cfL_ok (fun _ _ _ _ _ k => k) _ _ _ _ _ _ oL_changedBy_8 hr
def bL_changedBy_15 : List OP := [(.iconst 1, 1, (0, 0, 0), vI 1), (.ireturn, 1, (0, 0, 0), vU)]
theorem oL_changedBy_15 : okAt mL_changedBy bL_changedBy_15 15 = true := by decide +kernel
theorem rL_changedBy_15 {g : Gp} {Q : PQ} {L st : List AV} {h : AH} {u : Nat × Nat} (hr : run mL_changedBy Q (fun pc L st h u => Ex g mL_changedBy pc L st h u Q) bL_changedBy_15 15 L st h u) : Ex g mL_changedBy 15 L st h u Q := run_ok (M := mL_changedBy) cfL_ok (fun _ _ _ _ _ k => k) _ _ _ _ _ _ oL_changedBy_15 hr
theorem w_changedBy {g : Gp} {h : AH} {Q : PQ} {i1 i2 : Int32} (hx : zK h 4 = (1, 9)) (ev : Ev g mX9_changedBy [vR 4, vI i1, vI i2] h (WQ [1] Q)) : Ev g mL_changedBy [vR 4, vI i1, vI i2, vR 122] h Q := by
  have fin : ∀ (k : Ex g mL_changedBy 0 [vR 4, vI i1, vI i2, vR 122, vU] [] h (0, 0) Q), Ev g mL_changedBy [vR 4, vI i1, vI i2, vR 122] h Q := fun k => Ev.of (by decide +kernel) rfl (Nat.le_of_ble_eq_true rfl) k
  refine fin ?_
  refine rL_changedBy_0 ?_
  simp only [bL_changedBy_0, run, Nat.reduceAdd, lg, st1, st2, lkill, lset, fvv, sfv, kind3, cat1, retI, retA, List.length_cons, List.length_nil, true_and, and_true, or_true, true_or, qL_changedBy]
  refine Ex.callVX (av := [vI i1, vI i2]) (rest := [vI 0, vR 122]) (r := (RX9, TX9, 10)) (N := mX9_changedBy) mX9_changedBy_ok rfl lkL_56 imX9_changedBy seX9_changedBy rfl hx (by decide) (by decide) (by decide) (Nat.le_of_ble_eq_true rfl) (by decide +kernel) ev (fun v h' q => ?_) (fun k h' q => ?_)
  · rcases v with _ | (v | v)
    · exact False.elim q
    · obtain ⟨k1, q⟩ := q
      refine Ex.wf (fun wf => ?_)
      refine rL_changedBy_8 ?_
      simp only [bL_changedBy_8, run, Nat.reduceAdd, lg, st1, st2, lkill, lset, fvv, sfv, kind3, cat1, retI, retA, List.length_cons, List.length_nil, true_and, and_true, or_true, true_or, qL_changedBy, Option.toList, List.cons_append, List.nil_append, k1, kL, kI, kD, kR, rL, rI, rD, iL, iD, iR, lI, lD, lR, not_true_eq_false, not_false_eq_true, false_implies, true_and, and_true, tti]
      exact ⟨vin01, q wf⟩
    · exact False.elim q
  · obtain ⟨j, e, q⟩ := q
    rcases j with _ | j
    · obtain rfl : 1 = k := Option.some.inj e
      refine ⟨[], ⟨0, 10, 13, 27⟩, [], 4, 2, rfl, fun z hz => absurd hz List.not_mem_nil, by decide, (by decide : ¬ 27 = 0), by decide, by decide, wl_1, wc_1, Or.inl ⟨by decide +kernel, rfl⟩, Nat.le_of_ble_eq_true rfl, ?_⟩
      refine rL_changedBy_15 ?_
      simp only [bL_changedBy_15, run, Nat.reduceAdd, lg, st1, st2, lkill, lset, fvv, sfv, kind3, cat1, retI, retA, List.length_cons, List.length_nil, true_and, and_true, or_true, true_or, qL_changedBy, not_true_eq_false, not_false_eq_true, false_implies, true_and, and_true, tti]
      exact q
    exact absurd e (by simp)
theorem qL_wealth : mR mL_wealth = (some FieldType.int) := rfl
theorem qCL_wealth : mC mL_wealth = 1 := rfl
theorem qSL_wealth : mS mL_wealth = 6 := rfl
def bL_wealth_0 : List OP := [(.aload_n 2, 1, (2, 0, 0), vU), (.iconst 0, 1, (0, 0, 0), vI 0), (.aload_n 0, 1, (0, 0, 0), vU), (.iload_n 1, 1, (1, 0, 0), vU)]
theorem oL_wealth_0 : okAt mL_wealth bL_wealth_0 0 = true := by decide +kernel
theorem rL_wealth_0 {g : Gp} {Q : PQ} {L st : List AV} {h : AH} {u : Nat × Nat} (hr : run mL_wealth Q (fun pc L st h u => Ex g mL_wealth pc L st h u Q) bL_wealth_0 0 L st h u) : Ex g mL_wealth 0 L st h u Q := run_ok (M := mL_wealth) cfL_ok (fun _ _ _ _ _ k => k) _ _ _ _ _ _ oL_wealth_0 hr
def bL_wealth_7 : List OP := [(.i2l, 1, (0, 0, 0), vU), (.lastore, 1, (0, 0, 0), vU), (.goto 6, 3, (15, 0, 0), vU), (.iconst 0, 1, (0, 0, 0), vI 0), (.ireturn, 1, (0, 0, 0), vU)]
theorem oL_wealth_7 : okAt mL_wealth bL_wealth_7 7 = true := by decide +kernel
theorem rL_wealth_7 {g : Gp} {Q : PQ} {L st : List AV} {h : AH} {u : Nat × Nat} (hr : run mL_wealth Q (fun pc L st h u => Ex g mL_wealth pc L st h u Q) bL_wealth_7 7 L st h u) : Ex g mL_wealth 7 L st h u Q := run_ok (M := mL_wealth) cfL_ok (fun _ _ _ _ _ k => k) _ _ _ _ _ _ oL_wealth_7 hr
def bL_wealth_13 : List OP := [(.iconst 1, 1, (0, 0, 0), vI 1), (.ireturn, 1, (0, 0, 0), vU)]
theorem oL_wealth_13 : okAt mL_wealth bL_wealth_13 13 = true := by decide +kernel
theorem rL_wealth_13 {g : Gp} {Q : PQ} {L st : List AV} {h : AH} {u : Nat × Nat} (hr : run mL_wealth Q (fun pc L st h u => Ex g mL_wealth pc L st h u Q) bL_wealth_13 13 L st h u) : Ex g mL_wealth 13 L st h u Q := run_ok (M := mL_wealth) cfL_ok (fun _ _ _ _ _ k => k) _ _ _ _ _ _ oL_wealth_13 hr
theorem w_wealth {g : Gp} {h : AH} {Q : PQ} {i1 : Int32} (hx : zK h 4 = (1, 9)) (ev : Ev g mX9_wealth [vR 4, vI i1] h (WQ [1] Q)) : Ev g mL_wealth [vR 4, vI i1, vR 122] h Q := by
  have fin : ∀ (k : Ex g mL_wealth 0 [vR 4, vI i1, vR 122, vU] [] h (0, 0) Q), Ev g mL_wealth [vR 4, vI i1, vR 122] h Q := fun k => Ev.of (by decide +kernel) rfl (Nat.le_of_ble_eq_true rfl) k
  refine fin ?_
  refine rL_wealth_0 ?_
  simp only [bL_wealth_0, run, Nat.reduceAdd, lg, st1, st2, lkill, lset, fvv, sfv, kind3, cat1, retI, retA, List.length_cons, List.length_nil, true_and, and_true, or_true, true_or, qL_wealth]
  refine Ex.callVX (av := [vI i1]) (rest := [vI 0, vR 122]) (r := (RX9, TX9, 10)) (N := mX9_wealth) mX9_wealth_ok rfl lkL_59 imX9_wealth seX9_wealth rfl hx (by decide) (by decide) (by decide) (Nat.le_of_ble_eq_true rfl) (by decide +kernel) ev (fun v h' q => ?_) (fun k h' q => ?_)
  · rcases v with _ | (v | v)
    · exact False.elim q
    · obtain ⟨k1, q⟩ := q
      refine Ex.wf (fun wf => ?_)
      refine rL_wealth_7 ?_
      simp only [bL_wealth_7, run, Nat.reduceAdd, lg, st1, st2, lkill, lset, fvv, sfv, kind3, cat1, retI, retA, List.length_cons, List.length_nil, true_and, and_true, or_true, true_or, qL_wealth, Option.toList, List.cons_append, List.nil_append, k1, kL, kI, kD, kR, rL, rI, rD, iL, iD, iR, lI, lD, lR, not_true_eq_false, not_false_eq_true, false_implies, true_and, and_true, tti]
      exact ⟨vin01, q wf⟩
    · exact False.elim q
  · obtain ⟨j, e, q⟩ := q
    rcases j with _ | j
    · obtain rfl : 1 = k := Option.some.inj e
      refine ⟨[], ⟨0, 9, 12, 27⟩, [], 3, 1, rfl, fun z hz => absurd hz List.not_mem_nil, by decide, (by decide : ¬ 27 = 0), by decide, by decide, wl_1, wc_1, Or.inr ⟨3, rfl, by decide +kernel, rfl⟩, Nat.le_of_ble_eq_true rfl, ?_⟩
      refine rL_wealth_13 ?_
      simp only [bL_wealth_13, run, Nat.reduceAdd, lg, st1, st2, lkill, lset, fvv, sfv, kind3, cat1, retI, retA, List.length_cons, List.length_nil, true_and, and_true, or_true, true_or, qL_wealth, not_true_eq_false, not_false_eq_true, false_implies, true_and, and_true, tti]
      exact q
    exact absurd e (by simp)
theorem qL_alike : mR mL_alike = (some FieldType.int) := rfl
theorem qCL_alike : mC mL_alike = 1 := rfl
theorem qSL_alike : mS mL_alike = 6 := rfl
def bL_alike_0 : List OP := [(.aload_n 2, 1, (2, 0, 0), vU), (.iconst 0, 1, (0, 0, 0), vI 0), (.aload_n 0, 1, (0, 0, 0), vU), (.iload_n 1, 1, (1, 0, 0), vU)]
theorem oL_alike_0 : okAt mL_alike bL_alike_0 0 = true := by decide +kernel
theorem rL_alike_0 {g : Gp} {Q : PQ} {L st : List AV} {h : AH} {u : Nat × Nat} (hr : run mL_alike Q (fun pc L st h u => Ex g mL_alike pc L st h u Q) bL_alike_0 0 L st h u) : Ex g mL_alike 0 L st h u Q := run_ok (M := mL_alike) cfL_ok (fun _ _ _ _ _ k => k) _ _ _ _ _ _ oL_alike_0 hr
def bL_alike_7 : List OP := [(.i2l, 1, (0, 0, 0), vU), (.lastore, 1, (0, 0, 0), vU), (.goto 6, 3, (15, 0, 0), vU), (.iconst 0, 1, (0, 0, 0), vI 0), (.ireturn, 1, (0, 0, 0), vU)]
theorem oL_alike_7 : okAt mL_alike bL_alike_7 7 = true := by decide +kernel
theorem rL_alike_7 {g : Gp} {Q : PQ} {L st : List AV} {h : AH} {u : Nat × Nat} (hr : run mL_alike Q (fun pc L st h u => Ex g mL_alike pc L st h u Q) bL_alike_7 7 L st h u) : Ex g mL_alike 7 L st h u Q := run_ok (M := mL_alike) cfL_ok (fun _ _ _ _ _ k => k) _ _ _ _ _ _ oL_alike_7 hr
def bL_alike_13 : List OP := [(.iconst 1, 1, (0, 0, 0), vI 1), (.ireturn, 1, (0, 0, 0), vU)]
theorem oL_alike_13 : okAt mL_alike bL_alike_13 13 = true := by decide +kernel
theorem rL_alike_13 {g : Gp} {Q : PQ} {L st : List AV} {h : AH} {u : Nat × Nat} (hr : run mL_alike Q (fun pc L st h u => Ex g mL_alike pc L st h u Q) bL_alike_13 13 L st h u) : Ex g mL_alike 13 L st h u Q := run_ok (M := mL_alike) cfL_ok (fun _ _ _ _ _ k => k) _ _ _ _ _ _ oL_alike_13 hr
theorem w_alike {g : Gp} {h : AH} {Q : PQ} {i1 : Int32} (hx : zK h 4 = (1, 9)) (ev : Ev g mX9_alike [vR 4, vI i1] h (WQ [1] Q)) : Ev g mL_alike [vR 4, vI i1, vR 122] h Q := by
  have fin : ∀ (k : Ex g mL_alike 0 [vR 4, vI i1, vR 122, vU] [] h (0, 0) Q), Ev g mL_alike [vR 4, vI i1, vR 122] h Q := fun k => Ev.of (by decide +kernel) rfl (Nat.le_of_ble_eq_true rfl) k
  refine fin ?_
  refine rL_alike_0 ?_
  simp only [bL_alike_0, run, Nat.reduceAdd, lg, st1, st2, lkill, lset, fvv, sfv, kind3, cat1, retI, retA, List.length_cons, List.length_nil, true_and, and_true, or_true, true_or, qL_alike]
  refine Ex.callVX (av := [vI i1]) (rest := [vI 0, vR 122]) (r := (RX9, TX9, 10)) (N := mX9_alike) mX9_alike_ok rfl lkL_62 imX9_alike seX9_alike rfl hx (by decide) (by decide) (by decide) (Nat.le_of_ble_eq_true rfl) (by decide +kernel) ev (fun v h' q => ?_) (fun k h' q => ?_)
  · rcases v with _ | (v | v)
    · exact False.elim q
    · obtain ⟨k1, q⟩ := q
      refine Ex.wf (fun wf => ?_)
      refine rL_alike_7 ?_
      simp only [bL_alike_7, run, Nat.reduceAdd, lg, st1, st2, lkill, lset, fvv, sfv, kind3, cat1, retI, retA, List.length_cons, List.length_nil, true_and, and_true, or_true, true_or, qL_alike, Option.toList, List.cons_append, List.nil_append, k1, kL, kI, kD, kR, rL, rI, rD, iL, iD, iR, lI, lD, lR, not_true_eq_false, not_false_eq_true, false_implies, true_and, and_true, tti]
      exact ⟨vin01, q wf⟩
    · exact False.elim q
  · obtain ⟨j, e, q⟩ := q
    rcases j with _ | j
    · obtain rfl : 1 = k := Option.some.inj e
      refine ⟨[], ⟨0, 9, 12, 27⟩, [], 3, 1, rfl, fun z hz => absurd hz List.not_mem_nil, by decide, (by decide : ¬ 27 = 0), by decide, by decide, wl_1, wc_1, Or.inr ⟨3, rfl, by decide +kernel, rfl⟩, Nat.le_of_ble_eq_true rfl, ?_⟩
      refine rL_alike_13 ?_
      simp only [bL_alike_13, run, Nat.reduceAdd, lg, st1, st2, lkill, lset, fvv, sfv, kind3, cat1, retI, retA, List.length_cons, List.length_nil, true_and, and_true, or_true, true_or, qL_alike, not_true_eq_false, not_false_eq_true, false_implies, true_and, and_true, tti]
      exact q
    exact absurd e (by simp)
theorem qL_soundsOf : mR mL_soundsOf = (some FieldType.int) := rfl
theorem qCL_soundsOf : mC mL_soundsOf = 1 := rfl
theorem qSL_soundsOf : mS mL_soundsOf = 6 := rfl
def bL_soundsOf_0 : List OP := [(.aload_n 2, 1, (2, 0, 0), vU), (.iconst 0, 1, (0, 0, 0), vI 0), (.aload_n 0, 1, (0, 0, 0), vU), (.iload_n 1, 1, (1, 0, 0), vU)]
theorem oL_soundsOf_0 : okAt mL_soundsOf bL_soundsOf_0 0 = true := by decide +kernel
theorem rL_soundsOf_0 {g : Gp} {Q : PQ} {L st : List AV} {h : AH} {u : Nat × Nat} (hr : run mL_soundsOf Q (fun pc L st h u => Ex g mL_soundsOf pc L st h u Q) bL_soundsOf_0 0 L st h u) : Ex g mL_soundsOf 0 L st h u Q := run_ok (M := mL_soundsOf) cfL_ok (fun _ _ _ _ _ k => k) _ _ _ _ _ _ oL_soundsOf_0 hr
def bL_soundsOf_7 : List OP := [(.i2l, 1, (0, 0, 0), vU), (.lastore, 1, (0, 0, 0), vU), (.goto 6, 3, (15, 0, 0), vU), (.iconst 0, 1, (0, 0, 0), vI 0), (.ireturn, 1, (0, 0, 0), vU)]
theorem oL_soundsOf_7 : okAt mL_soundsOf bL_soundsOf_7 7 = true := by decide +kernel
theorem rL_soundsOf_7 {g : Gp} {Q : PQ} {L st : List AV} {h : AH} {u : Nat × Nat} (hr : run mL_soundsOf Q (fun pc L st h u => Ex g mL_soundsOf pc L st h u Q) bL_soundsOf_7 7 L st h u) : Ex g mL_soundsOf 7 L st h u Q := run_ok (M := mL_soundsOf) cfL_ok (fun _ _ _ _ _ k => k) _ _ _ _ _ _ oL_soundsOf_7 hr
def bL_soundsOf_13 : List OP := [(.iconst 1, 1, (0, 0, 0), vI 1), (.ireturn, 1, (0, 0, 0), vU)]
theorem oL_soundsOf_13 : okAt mL_soundsOf bL_soundsOf_13 13 = true := by decide +kernel
theorem rL_soundsOf_13 {g : Gp} {Q : PQ} {L st : List AV} {h : AH} {u : Nat × Nat} (hr : run mL_soundsOf Q (fun pc L st h u => Ex g mL_soundsOf pc L st h u Q) bL_soundsOf_13 13 L st h u) : Ex g mL_soundsOf 13 L st h u Q := run_ok (M := mL_soundsOf) cfL_ok (fun _ _ _ _ _ k => k) _ _ _ _ _ _ oL_soundsOf_13 hr
theorem w_soundsOf {g : Gp} {h : AH} {Q : PQ} {i1 : Int32} (hx : zK h 4 = (1, 9)) (ev : Ev g mX9_soundsOf [vR 4, vI i1] h (WQ [1] Q)) : Ev g mL_soundsOf [vR 4, vI i1, vR 122] h Q := by
  have fin : ∀ (k : Ex g mL_soundsOf 0 [vR 4, vI i1, vR 122, vU] [] h (0, 0) Q), Ev g mL_soundsOf [vR 4, vI i1, vR 122] h Q := fun k => Ev.of (by decide +kernel) rfl (Nat.le_of_ble_eq_true rfl) k
  refine fin ?_
  refine rL_soundsOf_0 ?_
  simp only [bL_soundsOf_0, run, Nat.reduceAdd, lg, st1, st2, lkill, lset, fvv, sfv, kind3, cat1, retI, retA, List.length_cons, List.length_nil, true_and, and_true, or_true, true_or, qL_soundsOf]
  refine Ex.callVX (av := [vI i1]) (rest := [vI 0, vR 122]) (r := (RX9, TX9, 10)) (N := mX9_soundsOf) mX9_soundsOf_ok rfl lkL_65 imX9_soundsOf seX9_soundsOf rfl hx (by decide) (by decide) (by decide) (Nat.le_of_ble_eq_true rfl) (by decide +kernel) ev (fun v h' q => ?_) (fun k h' q => ?_)
  · rcases v with _ | (v | v)
    · exact False.elim q
    · obtain ⟨k1, q⟩ := q
      refine Ex.wf (fun wf => ?_)
      refine rL_soundsOf_7 ?_
      simp only [bL_soundsOf_7, run, Nat.reduceAdd, lg, st1, st2, lkill, lset, fvv, sfv, kind3, cat1, retI, retA, List.length_cons, List.length_nil, true_and, and_true, or_true, true_or, qL_soundsOf, Option.toList, List.cons_append, List.nil_append, k1, kL, kI, kD, kR, rL, rI, rD, iL, iD, iR, lI, lD, lR, not_true_eq_false, not_false_eq_true, false_implies, true_and, and_true, tti]
      exact ⟨vin01, q wf⟩
    · exact False.elim q
  · obtain ⟨j, e, q⟩ := q
    rcases j with _ | j
    · obtain rfl : 1 = k := Option.some.inj e
      refine ⟨[], ⟨0, 9, 12, 27⟩, [], 3, 1, rfl, fun z hz => absurd hz List.not_mem_nil, by decide, (by decide : ¬ 27 = 0), by decide, by decide, wl_1, wc_1, Or.inr ⟨3, rfl, by decide +kernel, rfl⟩, Nat.le_of_ble_eq_true rfl, ?_⟩
      refine rL_soundsOf_13 ?_
      simp only [bL_soundsOf_13, run, Nat.reduceAdd, lg, st1, st2, lkill, lset, fvv, sfv, kind3, cat1, retI, retA, List.length_cons, List.length_nil, true_and, and_true, or_true, true_or, qL_soundsOf, not_true_eq_false, not_false_eq_true, false_implies, true_and, and_true, tti]
      exact q
    exact absurd e (by simp)
theorem qL_cost : mR mL_cost = (some FieldType.int) := rfl
theorem qCL_cost : mC mL_cost = 2 := rfl
theorem qSL_cost : mS mL_cost = 12 := rfl
def bL_cost_0 : List OP := [(.aload 4, 2, (4, 0, 0), vU), (.iconst 0, 1, (0, 0, 0), vI 0), (.aload_n 0, 1, (0, 0, 0), vU), (.iload_n 1, 1, (1, 0, 0), vU), (.iload_n 2, 1, (2, 0, 0), vU), (.iload_n 3, 1, (3, 0, 0), vU)]
theorem oL_cost_0 : okAt mL_cost bL_cost_0 0 = true := by decide +kernel
theorem rL_cost_0 {g : Gp} {Q : PQ} {L st : List AV} {h : AH} {u : Nat × Nat} (hr : run mL_cost Q (fun pc L st h u => Ex g mL_cost pc L st h u Q) bL_cost_0 0 L st h u) : Ex g mL_cost 0 L st h u Q := run_ok (M := mL_cost) cfL_ok (fun _ _ _ _ _ k => k) _ _ _ _ _ _ oL_cost_0 hr
def bL_cost_10 : List OP := [(.i2l, 1, (0, 0, 0), vU), (.lastore, 1, (0, 0, 0), vU), (.goto 11, 3, (23, 0, 0), vU), (.iconst 0, 1, (0, 0, 0), vI 0), (.ireturn, 1, (0, 0, 0), vU)]
theorem oL_cost_10 : okAt mL_cost bL_cost_10 10 = true := by decide +kernel
theorem rL_cost_10 {g : Gp} {Q : PQ} {L st : List AV} {h : AH} {u : Nat × Nat} (hr : run mL_cost Q (fun pc L st h u => Ex g mL_cost pc L st h u Q) bL_cost_10 10 L st h u) : Ex g mL_cost 10 L st h u Q := run_ok (M := mL_cost) cfL_ok (fun _ _ _ _ _ k => k) _ _ _ _ _ _ oL_cost_10 hr
def bL_cost_17 : List OP := [(.iconst 1, 1, (0, 0, 0), vI 1), (.ireturn, 1, (0, 0, 0), vU)]
theorem oL_cost_17 : okAt mL_cost bL_cost_17 17 = true := by decide +kernel
theorem rL_cost_17 {g : Gp} {Q : PQ} {L st : List AV} {h : AH} {u : Nat × Nat} (hr : run mL_cost Q (fun pc L st h u => Ex g mL_cost pc L st h u Q) bL_cost_17 17 L st h u) : Ex g mL_cost 17 L st h u Q := run_ok (M := mL_cost) cfL_ok (fun _ _ _ _ _ k => k) _ _ _ _ _ _ oL_cost_17 hr
def bL_cost_21 : List OP := [(.iconst 2, 1, (0, 0, 0), vI 2), (.ireturn, 1, (0, 0, 0), vU)]
theorem oL_cost_21 : okAt mL_cost bL_cost_21 21 = true := by decide +kernel
theorem rL_cost_21 {g : Gp} {Q : PQ} {L st : List AV} {h : AH} {u : Nat × Nat} (hr : run mL_cost Q (fun pc L st h u => Ex g mL_cost pc L st h u Q) bL_cost_21 21 L st h u) : Ex g mL_cost 21 L st h u Q := run_ok (M := mL_cost) cfL_ok (fun _ _ _ _ _ k => k) _ _ _ _ _ _ oL_cost_21 hr
theorem w_cost {g : Gp} {h : AH} {Q : PQ} {i1 i2 i3 : Int32} (hx : zK h 4 = (1, 9)) (ev : Ev g mX9_cost [vR 4, vI i1, vI i2, vI i3] h (WQ [1, 2] Q)) : Ev g mL_cost [vR 4, vI i1, vI i2, vI i3, vR 122] h Q := by
  have fin : ∀ (k : Ex g mL_cost 0 [vR 4, vI i1, vI i2, vI i3, vR 122, vU] [] h (0, 0) Q), Ev g mL_cost [vR 4, vI i1, vI i2, vI i3, vR 122] h Q := fun k => Ev.of (by decide +kernel) rfl (Nat.le_of_ble_eq_true rfl) k
  refine fin ?_
  refine rL_cost_0 ?_
  simp only [bL_cost_0, run, Nat.reduceAdd, lg, st1, st2, lkill, lset, fvv, sfv, kind3, cat1, retI, retA, List.length_cons, List.length_nil, true_and, and_true, or_true, true_or, qL_cost]
  refine Ex.callVX (av := [vI i1, vI i2, vI i3]) (rest := [vI 0, vR 122]) (r := (RX9, TX9, 10)) (N := mX9_cost) mX9_cost_ok rfl lkL_68 imX9_cost seX9_cost rfl hx (by decide) (by decide) (by decide) (Nat.le_of_ble_eq_true rfl) (by decide +kernel) ev (fun v h' q => ?_) (fun k h' q => ?_)
  · rcases v with _ | (v | v)
    · exact False.elim q
    · obtain ⟨k1, q⟩ := q
      refine Ex.wf (fun wf => ?_)
      refine rL_cost_10 ?_
      simp only [bL_cost_10, run, Nat.reduceAdd, lg, st1, st2, lkill, lset, fvv, sfv, kind3, cat1, retI, retA, List.length_cons, List.length_nil, true_and, and_true, or_true, true_or, qL_cost, Option.toList, List.cons_append, List.nil_append, k1, kL, kI, kD, kR, rL, rI, rD, iL, iD, iR, lI, lD, lR, not_true_eq_false, not_false_eq_true, false_implies, true_and, and_true, tti]
      exact ⟨vin01, q wf⟩
    · exact False.elim q
  · obtain ⟨j, e, q⟩ := q
    rcases j with _ | j
    · obtain rfl : 1 = k := Option.some.inj e
      refine ⟨[], ⟨0, 12, 15, 27⟩, [⟨0, 12, 19, 13⟩], 5, 2, rfl, fun z hz => absurd hz List.not_mem_nil, by decide, (by decide : ¬ 27 = 0), by decide, by decide, wl_1, wc_1, Or.inl ⟨by decide +kernel, rfl⟩, Nat.le_of_ble_eq_true rfl, ?_⟩
      refine rL_cost_17 ?_
      simp only [bL_cost_17, run, Nat.reduceAdd, lg, st1, st2, lkill, lset, fvv, sfv, kind3, cat1, retI, retA, List.length_cons, List.length_nil, true_and, and_true, or_true, true_or, qL_cost, not_true_eq_false, not_false_eq_true, false_implies, true_and, and_true, tti]
      exact q
    rcases j with _ | j
    · obtain rfl : 2 = k := Option.some.inj e
      refine ⟨[⟨0, 12, 15, 27⟩], ⟨0, 12, 19, 13⟩, [], 5, 2, rfl, List.forall_mem_cons.mpr ⟨⟨(by decide : ¬ 27 = 0), 1, by decide, by decide, by decide, wl_1⟩, fun _ h => absurd h List.not_mem_nil⟩, by decide, (by decide : ¬ 13 = 0), by decide, by decide, wl_2, wc_2, Or.inl ⟨by decide +kernel, rfl⟩, Nat.le_of_ble_eq_true rfl, ?_⟩
      refine rL_cost_21 ?_
      simp only [bL_cost_21, run, Nat.reduceAdd, lg, st1, st2, lkill, lset, fvv, sfv, kind3, cat1, retI, retA, List.length_cons, List.length_nil, true_and, and_true, or_true, true_or, qL_cost, not_true_eq_false, not_false_eq_true, false_implies, true_and, and_true, tti]
      exact q
    exact absurd e (by simp)
theorem qL_columns : mR mL_columns = (some FieldType.int) := rfl
theorem qCL_columns : mC mL_columns = 2 := rfl
theorem qSL_columns : mS mL_columns = 12 := rfl
def bL_columns_0 : List OP := [(.aload 4, 2, (4, 0, 0), vU), (.iconst 0, 1, (0, 0, 0), vI 0), (.aload_n 0, 1, (0, 0, 0), vU), (.iload_n 1, 1, (1, 0, 0), vU), (.iload_n 2, 1, (2, 0, 0), vU), (.iload_n 3, 1, (3, 0, 0), vU)]
theorem oL_columns_0 : okAt mL_columns bL_columns_0 0 = true := by decide +kernel
theorem rL_columns_0 {g : Gp} {Q : PQ} {L st : List AV} {h : AH} {u : Nat × Nat} (hr : run mL_columns Q (fun pc L st h u => Ex g mL_columns pc L st h u Q) bL_columns_0 0 L st h u) : Ex g mL_columns 0 L st h u Q := run_ok (M := mL_columns) cfL_ok (fun _ _ _ _ _ k => k) _ _ _ _ _ _ oL_columns_0 hr
def bL_columns_10 : List OP := [(.i2l, 1, (0, 0, 0), vU), (.lastore, 1, (0, 0, 0), vU), (.goto 11, 3, (23, 0, 0), vU), (.iconst 0, 1, (0, 0, 0), vI 0), (.ireturn, 1, (0, 0, 0), vU)]
theorem oL_columns_10 : okAt mL_columns bL_columns_10 10 = true := by decide +kernel
theorem rL_columns_10 {g : Gp} {Q : PQ} {L st : List AV} {h : AH} {u : Nat × Nat} (hr : run mL_columns Q (fun pc L st h u => Ex g mL_columns pc L st h u Q) bL_columns_10 10 L st h u) : Ex g mL_columns 10 L st h u Q := run_ok (M := mL_columns) cfL_ok (fun _ _ _ _ _ k => k) _ _ _ _ _ _ oL_columns_10 hr
def bL_columns_17 : List OP := [(.iconst 1, 1, (0, 0, 0), vI 1), (.ireturn, 1, (0, 0, 0), vU)]
theorem oL_columns_17 : okAt mL_columns bL_columns_17 17 = true := by decide +kernel
theorem rL_columns_17 {g : Gp} {Q : PQ} {L st : List AV} {h : AH} {u : Nat × Nat} (hr : run mL_columns Q (fun pc L st h u => Ex g mL_columns pc L st h u Q) bL_columns_17 17 L st h u) : Ex g mL_columns 17 L st h u Q := run_ok (M := mL_columns) cfL_ok (fun _ _ _ _ _ k => k) _ _ _ _ _ _ oL_columns_17 hr
def bL_columns_21 : List OP := [(.iconst 2, 1, (0, 0, 0), vI 2), (.ireturn, 1, (0, 0, 0), vU)]
theorem oL_columns_21 : okAt mL_columns bL_columns_21 21 = true := by decide +kernel
theorem rL_columns_21 {g : Gp} {Q : PQ} {L st : List AV} {h : AH} {u : Nat × Nat} (hr : run mL_columns Q (fun pc L st h u => Ex g mL_columns pc L st h u Q) bL_columns_21 21 L st h u) : Ex g mL_columns 21 L st h u Q := run_ok (M := mL_columns) cfL_ok (fun _ _ _ _ _ k => k) _ _ _ _ _ _ oL_columns_21 hr
theorem w_columns {g : Gp} {h : AH} {Q : PQ} {i1 i2 i3 : Int32} (hx : zK h 4 = (1, 9)) (ev : Ev g mX9_columns [vR 4, vI i1, vI i2, vI i3] h (WQ [1, 2] Q)) : Ev g mL_columns [vR 4, vI i1, vI i2, vI i3, vR 122] h Q := by
  have fin : ∀ (k : Ex g mL_columns 0 [vR 4, vI i1, vI i2, vI i3, vR 122, vU] [] h (0, 0) Q), Ev g mL_columns [vR 4, vI i1, vI i2, vI i3, vR 122] h Q := fun k => Ev.of (by decide +kernel) rfl (Nat.le_of_ble_eq_true rfl) k
  refine fin ?_
  refine rL_columns_0 ?_
  simp only [bL_columns_0, run, Nat.reduceAdd, lg, st1, st2, lkill, lset, fvv, sfv, kind3, cat1, retI, retA, List.length_cons, List.length_nil, true_and, and_true, or_true, true_or, qL_columns]
  refine Ex.callVX (av := [vI i1, vI i2, vI i3]) (rest := [vI 0, vR 122]) (r := (RX9, TX9, 10)) (N := mX9_columns) mX9_columns_ok rfl lkL_71 imX9_columns seX9_columns rfl hx (by decide) (by decide) (by decide) (Nat.le_of_ble_eq_true rfl) (by decide +kernel) ev (fun v h' q => ?_) (fun k h' q => ?_)
  · rcases v with _ | (v | v)
    · exact False.elim q
    · obtain ⟨k1, q⟩ := q
      refine Ex.wf (fun wf => ?_)
      refine rL_columns_10 ?_
      simp only [bL_columns_10, run, Nat.reduceAdd, lg, st1, st2, lkill, lset, fvv, sfv, kind3, cat1, retI, retA, List.length_cons, List.length_nil, true_and, and_true, or_true, true_or, qL_columns, Option.toList, List.cons_append, List.nil_append, k1, kL, kI, kD, kR, rL, rI, rD, iL, iD, iR, lI, lD, lR, not_true_eq_false, not_false_eq_true, false_implies, true_and, and_true, tti]
      exact ⟨vin01, q wf⟩
    · exact False.elim q
  · obtain ⟨j, e, q⟩ := q
    rcases j with _ | j
    · obtain rfl : 1 = k := Option.some.inj e
      refine ⟨[], ⟨0, 12, 15, 27⟩, [⟨0, 12, 19, 13⟩], 5, 2, rfl, fun z hz => absurd hz List.not_mem_nil, by decide, (by decide : ¬ 27 = 0), by decide, by decide, wl_1, wc_1, Or.inl ⟨by decide +kernel, rfl⟩, Nat.le_of_ble_eq_true rfl, ?_⟩
      refine rL_columns_17 ?_
      simp only [bL_columns_17, run, Nat.reduceAdd, lg, st1, st2, lkill, lset, fvv, sfv, kind3, cat1, retI, retA, List.length_cons, List.length_nil, true_and, and_true, or_true, true_or, qL_columns, not_true_eq_false, not_false_eq_true, false_implies, true_and, and_true, tti]
      exact q
    rcases j with _ | j
    · obtain rfl : 2 = k := Option.some.inj e
      refine ⟨[⟨0, 12, 15, 27⟩], ⟨0, 12, 19, 13⟩, [], 5, 2, rfl, List.forall_mem_cons.mpr ⟨⟨(by decide : ¬ 27 = 0), 1, by decide, by decide, by decide, wl_1⟩, fun _ h => absurd h List.not_mem_nil⟩, by decide, (by decide : ¬ 13 = 0), by decide, by decide, wl_2, wc_2, Or.inl ⟨by decide +kernel, rfl⟩, Nat.le_of_ble_eq_true rfl, ?_⟩
      refine rL_columns_21 ?_
      simp only [bL_columns_21, run, Nat.reduceAdd, lg, st1, st2, lkill, lset, fvv, sfv, kind3, cat1, retI, retA, List.length_cons, List.length_nil, true_and, and_true, or_true, true_or, qL_columns, not_true_eq_false, not_false_eq_true, false_implies, true_and, and_true, tti]
      exact q
    exact absurd e (by simp)
theorem qL_columnAt : mR mL_columnAt = (some FieldType.int) := rfl
theorem qCL_columnAt : mC mL_columnAt = 3 := rfl
theorem qSL_columnAt : mS mL_columnAt = 18 := rfl
def bL_columnAt_0 : List OP := [(.aload 5, 2, (5, 0, 0), vU), (.iconst 0, 1, (0, 0, 0), vI 0), (.aload_n 0, 1, (0, 0, 0), vU), (.iload_n 1, 1, (1, 0, 0), vU), (.iload_n 2, 1, (2, 0, 0), vU), (.iload_n 3, 1, (3, 0, 0), vU), (.iload 4, 2, (4, 0, 0), vU)]
theorem oL_columnAt_0 : okAt mL_columnAt bL_columnAt_0 0 = true := by decide +kernel
theorem rL_columnAt_0 {g : Gp} {Q : PQ} {L st : List AV} {h : AH} {u : Nat × Nat} (hr : run mL_columnAt Q (fun pc L st h u => Ex g mL_columnAt pc L st h u Q) bL_columnAt_0 0 L st h u) : Ex g mL_columnAt 0 L st h u Q := run_ok (M := mL_columnAt) cfL_ok (fun _ _ _ _ _ k => k) _ _ _ _ _ _ oL_columnAt_0 hr
def bL_columnAt_12 : List OP := [(.i2l, 1, (0, 0, 0), vU), (.lastore, 1, (0, 0, 0), vU), (.goto 11, 3, (25, 0, 0), vU), (.iconst 0, 1, (0, 0, 0), vI 0), (.ireturn, 1, (0, 0, 0), vU)]
theorem oL_columnAt_12 : okAt mL_columnAt bL_columnAt_12 12 = true := by decide +kernel
theorem rL_columnAt_12 {g : Gp} {Q : PQ} {L st : List AV} {h : AH} {u : Nat × Nat} (hr : run mL_columnAt Q (fun pc L st h u => Ex g mL_columnAt pc L st h u Q) bL_columnAt_12 12 L st h u) : Ex g mL_columnAt 12 L st h u Q := run_ok (M := mL_columnAt) cfL_ok (fun _ _ _ _ _ k => k) _ _ _ _ _ _ oL_columnAt_12 hr
def bL_columnAt_19 : List OP := [(.iconst 1, 1, (0, 0, 0), vI 1), (.ireturn, 1, (0, 0, 0), vU)]
theorem oL_columnAt_19 : okAt mL_columnAt bL_columnAt_19 19 = true := by decide +kernel
theorem rL_columnAt_19 {g : Gp} {Q : PQ} {L st : List AV} {h : AH} {u : Nat × Nat} (hr : run mL_columnAt Q (fun pc L st h u => Ex g mL_columnAt pc L st h u Q) bL_columnAt_19 19 L st h u) : Ex g mL_columnAt 19 L st h u Q := run_ok (M := mL_columnAt) cfL_ok (fun _ _ _ _ _ k => k) _ _ _ _ _ _ oL_columnAt_19 hr
def bL_columnAt_23 : List OP := [(.iconst 2, 1, (0, 0, 0), vI 2), (.ireturn, 1, (0, 0, 0), vU)]
theorem oL_columnAt_23 : okAt mL_columnAt bL_columnAt_23 23 = true := by decide +kernel
theorem rL_columnAt_23 {g : Gp} {Q : PQ} {L st : List AV} {h : AH} {u : Nat × Nat} (hr : run mL_columnAt Q (fun pc L st h u => Ex g mL_columnAt pc L st h u Q) bL_columnAt_23 23 L st h u) : Ex g mL_columnAt 23 L st h u Q := run_ok (M := mL_columnAt) cfL_ok (fun _ _ _ _ _ k => k) _ _ _ _ _ _ oL_columnAt_23 hr
theorem w_columnAt {g : Gp} {h : AH} {Q : PQ} {i1 i2 i3 i4 : Int32} (hx : zK h 4 = (1, 9)) (ev : Ev g mX9_columnAt [vR 4, vI i1, vI i2, vI i3, vI i4] h (WQ [1, 2] Q)) : Ev g mL_columnAt [vR 4, vI i1, vI i2, vI i3, vI i4, vR 122] h Q := by
  have fin : ∀ (k : Ex g mL_columnAt 0 [vR 4, vI i1, vI i2, vI i3, vI i4, vR 122, vU] [] h (0, 0) Q), Ev g mL_columnAt [vR 4, vI i1, vI i2, vI i3, vI i4, vR 122] h Q := fun k => Ev.of (by decide +kernel) rfl (Nat.le_of_ble_eq_true rfl) k
  refine fin ?_
  refine rL_columnAt_0 ?_
  simp only [bL_columnAt_0, run, Nat.reduceAdd, lg, st1, st2, lkill, lset, fvv, sfv, kind3, cat1, retI, retA, List.length_cons, List.length_nil, true_and, and_true, or_true, true_or, qL_columnAt]
  refine Ex.callVX (av := [vI i1, vI i2, vI i3, vI i4]) (rest := [vI 0, vR 122]) (r := (RX9, TX9, 10)) (N := mX9_columnAt) mX9_columnAt_ok rfl lkL_74 imX9_columnAt seX9_columnAt rfl hx (by decide) (by decide) (by decide) (Nat.le_of_ble_eq_true rfl) (by decide +kernel) ev (fun v h' q => ?_) (fun k h' q => ?_)
  · rcases v with _ | (v | v)
    · exact False.elim q
    · obtain ⟨k1, q⟩ := q
      refine Ex.wf (fun wf => ?_)
      refine rL_columnAt_12 ?_
      simp only [bL_columnAt_12, run, Nat.reduceAdd, lg, st1, st2, lkill, lset, fvv, sfv, kind3, cat1, retI, retA, List.length_cons, List.length_nil, true_and, and_true, or_true, true_or, qL_columnAt, Option.toList, List.cons_append, List.nil_append, k1, kL, kI, kD, kR, rL, rI, rD, iL, iD, iR, lI, lD, lR, not_true_eq_false, not_false_eq_true, false_implies, true_and, and_true, tti]
      exact ⟨vin01, q wf⟩
    · exact False.elim q
  · obtain ⟨j, e, q⟩ := q
    rcases j with _ | j
    · obtain rfl : 1 = k := Option.some.inj e
      refine ⟨[], ⟨0, 14, 17, 27⟩, [⟨0, 14, 21, 13⟩], 6, 2, rfl, fun z hz => absurd hz List.not_mem_nil, by decide, (by decide : ¬ 27 = 0), by decide, by decide, wl_1, wc_1, Or.inl ⟨by decide +kernel, rfl⟩, Nat.le_of_ble_eq_true rfl, ?_⟩
      refine rL_columnAt_19 ?_
      simp only [bL_columnAt_19, run, Nat.reduceAdd, lg, st1, st2, lkill, lset, fvv, sfv, kind3, cat1, retI, retA, List.length_cons, List.length_nil, true_and, and_true, or_true, true_or, qL_columnAt, not_true_eq_false, not_false_eq_true, false_implies, true_and, and_true, tti]
      exact q
    rcases j with _ | j
    · obtain rfl : 2 = k := Option.some.inj e
      refine ⟨[⟨0, 14, 17, 27⟩], ⟨0, 14, 21, 13⟩, [], 6, 2, rfl, List.forall_mem_cons.mpr ⟨⟨(by decide : ¬ 27 = 0), 1, by decide, by decide, by decide, wl_1⟩, fun _ h => absurd h List.not_mem_nil⟩, by decide, (by decide : ¬ 13 = 0), by decide, by decide, wl_2, wc_2, Or.inl ⟨by decide +kernel, rfl⟩, Nat.le_of_ble_eq_true rfl, ?_⟩
      refine rL_columnAt_23 ?_
      simp only [bL_columnAt_23, run, Nat.reduceAdd, lg, st1, st2, lkill, lset, fvv, sfv, kind3, cat1, retI, retA, List.length_cons, List.length_nil, true_and, and_true, or_true, true_or, qL_columnAt, not_true_eq_false, not_false_eq_true, false_implies, true_and, and_true, tti]
      exact q
    exact absurd e (by simp)
theorem qL_answers : mR mL_answers = (some FieldType.int) := rfl
theorem qCL_answers : mC mL_answers = 2 := rfl
theorem qSL_answers : mS mL_answers = 12 := rfl
def bL_answers_0 : List OP := [(.aload 5, 2, (5, 0, 0), vU), (.iconst 0, 1, (0, 0, 0), vI 0), (.aload_n 0, 1, (0, 0, 0), vU), (.iload_n 1, 1, (1, 0, 0), vU), (.iload_n 2, 1, (2, 0, 0), vU), (.iload_n 3, 1, (3, 0, 0), vU), (.iload 4, 2, (4, 0, 0), vU)]
theorem oL_answers_0 : okAt mL_answers bL_answers_0 0 = true := by decide +kernel
theorem rL_answers_0 {g : Gp} {Q : PQ} {L st : List AV} {h : AH} {u : Nat × Nat} (hr : run mL_answers Q (fun pc L st h u => Ex g mL_answers pc L st h u Q) bL_answers_0 0 L st h u) : Ex g mL_answers 0 L st h u Q := run_ok (M := mL_answers) cfL_ok (fun _ _ _ _ _ k => k) _ _ _ _ _ _ oL_answers_0 hr
def bL_answers_12 : List OP := [(.i2l, 1, (0, 0, 0), vU), (.lastore, 1, (0, 0, 0), vU), (.goto 11, 3, (25, 0, 0), vU), (.iconst 0, 1, (0, 0, 0), vI 0), (.ireturn, 1, (0, 0, 0), vU)]
theorem oL_answers_12 : okAt mL_answers bL_answers_12 12 = true := by decide +kernel
theorem rL_answers_12 {g : Gp} {Q : PQ} {L st : List AV} {h : AH} {u : Nat × Nat} (hr : run mL_answers Q (fun pc L st h u => Ex g mL_answers pc L st h u Q) bL_answers_12 12 L st h u) : Ex g mL_answers 12 L st h u Q := run_ok (M := mL_answers) cfL_ok (fun _ _ _ _ _ k => k) _ _ _ _ _ _ oL_answers_12 hr
def bL_answers_19 : List OP := [(.iconst 1, 1, (0, 0, 0), vI 1), (.ireturn, 1, (0, 0, 0), vU)]
theorem oL_answers_19 : okAt mL_answers bL_answers_19 19 = true := by decide +kernel
theorem rL_answers_19 {g : Gp} {Q : PQ} {L st : List AV} {h : AH} {u : Nat × Nat} (hr : run mL_answers Q (fun pc L st h u => Ex g mL_answers pc L st h u Q) bL_answers_19 19 L st h u) : Ex g mL_answers 19 L st h u Q := run_ok (M := mL_answers) cfL_ok (fun _ _ _ _ _ k => k) _ _ _ _ _ _ oL_answers_19 hr
def bL_answers_23 : List OP := [(.iconst 2, 1, (0, 0, 0), vI 2), (.ireturn, 1, (0, 0, 0), vU)]
theorem oL_answers_23 : okAt mL_answers bL_answers_23 23 = true := by decide +kernel
theorem rL_answers_23 {g : Gp} {Q : PQ} {L st : List AV} {h : AH} {u : Nat × Nat} (hr : run mL_answers Q (fun pc L st h u => Ex g mL_answers pc L st h u Q) bL_answers_23 23 L st h u) : Ex g mL_answers 23 L st h u Q := run_ok (M := mL_answers) cfL_ok (fun _ _ _ _ _ k => k) _ _ _ _ _ _ oL_answers_23 hr
theorem w_answers {g : Gp} {h : AH} {Q : PQ} {i1 i2 i3 i4 : Int32} (hx : zK h 4 = (1, 9)) (ev : Ev g mX9_answers [vR 4, vI i1, vI i2, vI i3, vI i4] h (WQ [1, 2] Q)) : Ev g mL_answers [vR 4, vI i1, vI i2, vI i3, vI i4, vR 122] h Q := by
  have fin : ∀ (k : Ex g mL_answers 0 [vR 4, vI i1, vI i2, vI i3, vI i4, vR 122, vU] [] h (0, 0) Q), Ev g mL_answers [vR 4, vI i1, vI i2, vI i3, vI i4, vR 122] h Q := fun k => Ev.of (by decide +kernel) rfl (Nat.le_of_ble_eq_true rfl) k
  refine fin ?_
  refine rL_answers_0 ?_
  simp only [bL_answers_0, run, Nat.reduceAdd, lg, st1, st2, lkill, lset, fvv, sfv, kind3, cat1, retI, retA, List.length_cons, List.length_nil, true_and, and_true, or_true, true_or, qL_answers]
  refine Ex.callVX (av := [vI i1, vI i2, vI i3, vI i4]) (rest := [vI 0, vR 122]) (r := (RX9, TX9, 10)) (N := mX9_answers) mX9_answers_ok rfl lkL_77 imX9_answers seX9_answers rfl hx (by decide) (by decide) (by decide) (Nat.le_of_ble_eq_true rfl) (by decide +kernel) ev (fun v h' q => ?_) (fun k h' q => ?_)
  · rcases v with _ | (v | v)
    · exact False.elim q
    · obtain ⟨k1, q⟩ := q
      refine Ex.wf (fun wf => ?_)
      refine rL_answers_12 ?_
      simp only [bL_answers_12, run, Nat.reduceAdd, lg, st1, st2, lkill, lset, fvv, sfv, kind3, cat1, retI, retA, List.length_cons, List.length_nil, true_and, and_true, or_true, true_or, qL_answers, Option.toList, List.cons_append, List.nil_append, k1, kL, kI, kD, kR, rL, rI, rD, iL, iD, iR, lI, lD, lR, not_true_eq_false, not_false_eq_true, false_implies, true_and, and_true, tti]
      exact ⟨vin01, q wf⟩
    · exact False.elim q
  · obtain ⟨j, e, q⟩ := q
    rcases j with _ | j
    · obtain rfl : 1 = k := Option.some.inj e
      refine ⟨[], ⟨0, 14, 17, 27⟩, [⟨0, 14, 21, 13⟩], 6, 2, rfl, fun z hz => absurd hz List.not_mem_nil, by decide, (by decide : ¬ 27 = 0), by decide, by decide, wl_1, wc_1, Or.inl ⟨by decide +kernel, rfl⟩, Nat.le_of_ble_eq_true rfl, ?_⟩
      refine rL_answers_19 ?_
      simp only [bL_answers_19, run, Nat.reduceAdd, lg, st1, st2, lkill, lset, fvv, sfv, kind3, cat1, retI, retA, List.length_cons, List.length_nil, true_and, and_true, or_true, true_or, qL_answers, not_true_eq_false, not_false_eq_true, false_implies, true_and, and_true, tti]
      exact q
    rcases j with _ | j
    · obtain rfl : 2 = k := Option.some.inj e
      refine ⟨[⟨0, 14, 17, 27⟩], ⟨0, 14, 21, 13⟩, [], 6, 2, rfl, List.forall_mem_cons.mpr ⟨⟨(by decide : ¬ 27 = 0), 1, by decide, by decide, by decide, wl_1⟩, fun _ h => absurd h List.not_mem_nil⟩, by decide, (by decide : ¬ 13 = 0), by decide, by decide, wl_2, wc_2, Or.inl ⟨by decide +kernel, rfl⟩, Nat.le_of_ble_eq_true rfl, ?_⟩
      refine rL_answers_23 ?_
      simp only [bL_answers_23, run, Nat.reduceAdd, lg, st1, st2, lkill, lset, fvv, sfv, kind3, cat1, retI, retA, List.length_cons, List.length_nil, true_and, and_true, or_true, true_or, qL_answers, not_true_eq_false, not_false_eq_true, false_implies, true_and, and_true, tti]
      exact q
    exact absurd e (by simp)
theorem qL_mainAnswer : mR mL_mainAnswer = (some FieldType.int) := rfl
theorem qCL_mainAnswer : mC mL_mainAnswer = 2 := rfl
theorem qSL_mainAnswer : mS mL_mainAnswer = 12 := rfl
def bL_mainAnswer_0 : List OP := [(.aload 4, 2, (4, 0, 0), vU), (.iconst 0, 1, (0, 0, 0), vI 0), (.aload_n 0, 1, (0, 0, 0), vU), (.iload_n 1, 1, (1, 0, 0), vU), (.iload_n 2, 1, (2, 0, 0), vU), (.iload_n 3, 1, (3, 0, 0), vU)]
theorem oL_mainAnswer_0 : okAt mL_mainAnswer bL_mainAnswer_0 0 = true := by decide +kernel
theorem rL_mainAnswer_0 {g : Gp} {Q : PQ} {L st : List AV} {h : AH} {u : Nat × Nat} (hr : run mL_mainAnswer Q (fun pc L st h u => Ex g mL_mainAnswer pc L st h u Q) bL_mainAnswer_0 0 L st h u) : Ex g mL_mainAnswer 0 L st h u Q := run_ok (M := mL_mainAnswer) cfL_ok (fun _ _ _ _ _ k => k) _ _ _ _ _ _ oL_mainAnswer_0 hr
def bL_mainAnswer_10 : List OP := [(.i2l, 1, (0, 0, 0), vU), (.lastore, 1, (0, 0, 0), vU), (.goto 11, 3, (23, 0, 0), vU), (.iconst 0, 1, (0, 0, 0), vI 0), (.ireturn, 1, (0, 0, 0), vU)]
theorem oL_mainAnswer_10 : okAt mL_mainAnswer bL_mainAnswer_10 10 = true := by decide +kernel
theorem rL_mainAnswer_10 {g : Gp} {Q : PQ} {L st : List AV} {h : AH} {u : Nat × Nat} (hr : run mL_mainAnswer Q (fun pc L st h u => Ex g mL_mainAnswer pc L st h u Q) bL_mainAnswer_10 10 L st h u) : Ex g mL_mainAnswer 10 L st h u Q := run_ok (M := mL_mainAnswer) cfL_ok (fun _ _ _ _ _ k => k) _ _ _ _ _ _ oL_mainAnswer_10 hr
def bL_mainAnswer_17 : List OP := [(.iconst 1, 1, (0, 0, 0), vI 1), (.ireturn, 1, (0, 0, 0), vU)]
theorem oL_mainAnswer_17 : okAt mL_mainAnswer bL_mainAnswer_17 17 = true := by decide +kernel
theorem rL_mainAnswer_17 {g : Gp} {Q : PQ} {L st : List AV} {h : AH} {u : Nat × Nat} (hr : run mL_mainAnswer Q (fun pc L st h u => Ex g mL_mainAnswer pc L st h u Q) bL_mainAnswer_17 17 L st h u) : Ex g mL_mainAnswer 17 L st h u Q := run_ok (M := mL_mainAnswer) cfL_ok (fun _ _ _ _ _ k => k) _ _ _ _ _ _ oL_mainAnswer_17 hr
def bL_mainAnswer_21 : List OP := [(.iconst 2, 1, (0, 0, 0), vI 2), (.ireturn, 1, (0, 0, 0), vU)]
theorem oL_mainAnswer_21 : okAt mL_mainAnswer bL_mainAnswer_21 21 = true := by decide +kernel
theorem rL_mainAnswer_21 {g : Gp} {Q : PQ} {L st : List AV} {h : AH} {u : Nat × Nat} (hr : run mL_mainAnswer Q (fun pc L st h u => Ex g mL_mainAnswer pc L st h u Q) bL_mainAnswer_21 21 L st h u) : Ex g mL_mainAnswer 21 L st h u Q := run_ok (M := mL_mainAnswer) cfL_ok (fun _ _ _ _ _ k => k) _ _ _ _ _ _ oL_mainAnswer_21 hr
theorem w_mainAnswer {g : Gp} {h : AH} {Q : PQ} {i1 i2 i3 : Int32} (hx : zK h 4 = (1, 9)) (ev : Ev g mX9_mainAnswer [vR 4, vI i1, vI i2, vI i3] h (WQ [1, 2] Q)) : Ev g mL_mainAnswer [vR 4, vI i1, vI i2, vI i3, vR 122] h Q := by
  have fin : ∀ (k : Ex g mL_mainAnswer 0 [vR 4, vI i1, vI i2, vI i3, vR 122, vU] [] h (0, 0) Q), Ev g mL_mainAnswer [vR 4, vI i1, vI i2, vI i3, vR 122] h Q := fun k => Ev.of (by decide +kernel) rfl (Nat.le_of_ble_eq_true rfl) k
  refine fin ?_
  refine rL_mainAnswer_0 ?_
  simp only [bL_mainAnswer_0, run, Nat.reduceAdd, lg, st1, st2, lkill, lset, fvv, sfv, kind3, cat1, retI, retA, List.length_cons, List.length_nil, true_and, and_true, or_true, true_or, qL_mainAnswer]
  refine Ex.callVX (av := [vI i1, vI i2, vI i3]) (rest := [vI 0, vR 122]) (r := (RX9, TX9, 10)) (N := mX9_mainAnswer) mX9_mainAnswer_ok rfl lkL_80 imX9_mainAnswer seX9_mainAnswer rfl hx (by decide) (by decide) (by decide) (Nat.le_of_ble_eq_true rfl) (by decide +kernel) ev (fun v h' q => ?_) (fun k h' q => ?_)
  · rcases v with _ | (v | v)
    · exact False.elim q
    · obtain ⟨k1, q⟩ := q
      refine Ex.wf (fun wf => ?_)
      refine rL_mainAnswer_10 ?_
      simp only [bL_mainAnswer_10, run, Nat.reduceAdd, lg, st1, st2, lkill, lset, fvv, sfv, kind3, cat1, retI, retA, List.length_cons, List.length_nil, true_and, and_true, or_true, true_or, qL_mainAnswer, Option.toList, List.cons_append, List.nil_append, k1, kL, kI, kD, kR, rL, rI, rD, iL, iD, iR, lI, lD, lR, not_true_eq_false, not_false_eq_true, false_implies, true_and, and_true, tti]
      exact ⟨vin01, q wf⟩
    · exact False.elim q
  · obtain ⟨j, e, q⟩ := q
    rcases j with _ | j
    · obtain rfl : 1 = k := Option.some.inj e
      refine ⟨[], ⟨0, 12, 15, 27⟩, [⟨0, 12, 19, 13⟩], 5, 2, rfl, fun z hz => absurd hz List.not_mem_nil, by decide, (by decide : ¬ 27 = 0), by decide, by decide, wl_1, wc_1, Or.inl ⟨by decide +kernel, rfl⟩, Nat.le_of_ble_eq_true rfl, ?_⟩
      refine rL_mainAnswer_17 ?_
      simp only [bL_mainAnswer_17, run, Nat.reduceAdd, lg, st1, st2, lkill, lset, fvv, sfv, kind3, cat1, retI, retA, List.length_cons, List.length_nil, true_and, and_true, or_true, true_or, qL_mainAnswer, not_true_eq_false, not_false_eq_true, false_implies, true_and, and_true, tti]
      exact q
    rcases j with _ | j
    · obtain rfl : 2 = k := Option.some.inj e
      refine ⟨[⟨0, 12, 15, 27⟩], ⟨0, 12, 19, 13⟩, [], 5, 2, rfl, List.forall_mem_cons.mpr ⟨⟨(by decide : ¬ 27 = 0), 1, by decide, by decide, by decide, wl_1⟩, fun _ h => absurd h List.not_mem_nil⟩, by decide, (by decide : ¬ 13 = 0), by decide, by decide, wl_2, wc_2, Or.inl ⟨by decide +kernel, rfl⟩, Nat.le_of_ble_eq_true rfl, ?_⟩
      refine rL_mainAnswer_21 ?_
      simp only [bL_mainAnswer_21, run, Nat.reduceAdd, lg, st1, st2, lkill, lset, fvv, sfv, kind3, cat1, retI, retA, List.length_cons, List.length_nil, true_and, and_true, or_true, true_or, qL_mainAnswer, not_true_eq_false, not_false_eq_true, false_implies, true_and, and_true, tti]
      exact q
    exact absurd e (by simp)
theorem qL_far : mR mL_far = (some FieldType.int) := rfl
theorem qCL_far : mC mL_far = 1 := rfl
theorem qSL_far : mS mL_far = 6 := rfl
def bL_far_0 : List OP := [(.aload_n 3, 1, (3, 0, 0), vU), (.iconst 0, 1, (0, 0, 0), vI 0), (.aload_n 0, 1, (0, 0, 0), vU), (.iload_n 1, 1, (1, 0, 0), vU), (.iload_n 2, 1, (2, 0, 0), vU)]
theorem oL_far_0 : okAt mL_far bL_far_0 0 = true := by decide +kernel
theorem rL_far_0 {g : Gp} {Q : PQ} {L st : List AV} {h : AH} {u : Nat × Nat} (hr : run mL_far Q (fun pc L st h u => Ex g mL_far pc L st h u Q) bL_far_0 0 L st h u) : Ex g mL_far 0 L st h u Q := run_ok (M := mL_far) cfL_ok (fun _ _ _ _ _ k => k) _ _ _ _ _ _ oL_far_0 hr
def bL_far_8 : List OP := [(.dastore, 1, (0, 0, 0), vU), (.goto 7, 3, (16, 0, 0), vU), (.iconst 0, 1, (0, 0, 0), vI 0), (.ireturn, 1, (0, 0, 0), vU)]
theorem oL_far_8 : okAt mL_far bL_far_8 8 = true := by decide +kernel
theorem rL_far_8 {g : Gp} {Q : PQ} {L st : List AV} {h : AH} {u : Nat × Nat} (hr : run mL_far Q (fun pc L st h u => Ex g mL_far pc L st h u Q) bL_far_8 8 L st h u) : Ex g mL_far 8 L st h u Q := run_ok (M := mL_far) cfL_ok (fun _ _ _ _ _ k => k) _ _ _ _ _ _ oL_far_8 hr
def bL_far_14 : List OP := [(.iconst 1, 1, (0, 0, 0), vI 1), (.ireturn, 1, (0, 0, 0), vU)]
theorem oL_far_14 : okAt mL_far bL_far_14 14 = true := by decide +kernel
theorem rL_far_14 {g : Gp} {Q : PQ} {L st : List AV} {h : AH} {u : Nat × Nat} (hr : run mL_far Q (fun pc L st h u => Ex g mL_far pc L st h u Q) bL_far_14 14 L st h u) : Ex g mL_far 14 L st h u Q := run_ok (M := mL_far) cfL_ok (fun _ _ _ _ _ k => k) _ _ _ _ _ _ oL_far_14 hr
theorem w_far {g : Gp} {h : AH} {Q : PQ} {i1 i2 : Int32} (hx : zK h 4 = (1, 9)) (ev : Ev g mX9_far [vR 4, vI i1, vI i2] h (WQd [1] Q)) : Ev g mL_far [vR 4, vI i1, vI i2, vR 123] h Q := by
  have fin : ∀ (k : Ex g mL_far 0 [vR 4, vI i1, vI i2, vR 123, vU] [] h (0, 0) Q), Ev g mL_far [vR 4, vI i1, vI i2, vR 123] h Q := fun k => Ev.of (by decide +kernel) rfl (Nat.le_of_ble_eq_true rfl) k
  refine fin ?_
  refine rL_far_0 ?_
  simp only [bL_far_0, run, Nat.reduceAdd, lg, st1, st2, lkill, lset, fvv, sfv, kind3, cat1, retI, retA, List.length_cons, List.length_nil, true_and, and_true, or_true, true_or, qL_far]
  refine Ex.callVX (av := [vI i1, vI i2]) (rest := [vI 0, vR 123]) (r := (RX9, TX9, 10)) (N := mX9_far) mX9_far_ok rfl lkL_83 imX9_far seX9_far rfl hx (by decide) (by decide) (by decide) (Nat.le_of_ble_eq_true rfl) (by decide +kernel) ev (fun v h' q => ?_) (fun k h' q => ?_)
  · rcases v with _ | (v | v | v | v)
    · exact False.elim q
    · exact False.elim q
    · exact False.elim q
    · obtain ⟨k1, q⟩ := q
      refine Ex.wf (fun wf => ?_)
      refine rL_far_8 ?_
      simp only [bL_far_8, run, Nat.reduceAdd, lg, st1, st2, lkill, lset, fvv, sfv, kind3, cat1, retI, retA, List.length_cons, List.length_nil, true_and, and_true, or_true, true_or, qL_far, Option.toList, List.cons_append, List.nil_append, k1, kL, kI, kD, kR, rL, rI, rD, iL, iD, iR, lI, lD, lR, not_true_eq_false, not_false_eq_true, false_implies, true_and, and_true, tti]
      exact ⟨vin01, q wf⟩
    · exact False.elim q
  · obtain ⟨j, e, q⟩ := q
    rcases j with _ | j
    · obtain rfl : 1 = k := Option.some.inj e
      refine ⟨[], ⟨0, 9, 12, 27⟩, [], 4, 2, rfl, fun z hz => absurd hz List.not_mem_nil, by decide, (by decide : ¬ 27 = 0), by decide, by decide, wl_1, wc_1, Or.inl ⟨by decide +kernel, rfl⟩, Nat.le_of_ble_eq_true rfl, ?_⟩
      refine rL_far_14 ?_
      simp only [bL_far_14, run, Nat.reduceAdd, lg, st1, st2, lkill, lset, fvv, sfv, kind3, cat1, retI, retA, List.length_cons, List.length_nil, true_and, and_true, or_true, true_or, qL_far, not_true_eq_false, not_false_eq_true, false_implies, true_and, and_true, tti]
      exact q
    exact absurd e (by simp)
theorem qL_nearest : mR mL_nearest = (some FieldType.int) := rfl
theorem qCL_nearest : mC mL_nearest = 1 := rfl
theorem qSL_nearest : mS mL_nearest = 6 := rfl
def bL_nearest_0 : List OP := [(.aload_n 2, 1, (2, 0, 0), vU), (.iconst 0, 1, (0, 0, 0), vI 0), (.aload_n 0, 1, (0, 0, 0), vU), (.iload_n 1, 1, (1, 0, 0), vU)]
theorem oL_nearest_0 : okAt mL_nearest bL_nearest_0 0 = true := by decide +kernel
theorem rL_nearest_0 {g : Gp} {Q : PQ} {L st : List AV} {h : AH} {u : Nat × Nat} (hr : run mL_nearest Q (fun pc L st h u => Ex g mL_nearest pc L st h u Q) bL_nearest_0 0 L st h u) : Ex g mL_nearest 0 L st h u Q := run_ok (M := mL_nearest) cfL_ok (fun _ _ _ _ _ k => k) _ _ _ _ _ _ oL_nearest_0 hr
def bL_nearest_7 : List OP := [(.i2l, 1, (0, 0, 0), vU), (.lastore, 1, (0, 0, 0), vU), (.goto 6, 3, (15, 0, 0), vU), (.iconst 0, 1, (0, 0, 0), vI 0), (.ireturn, 1, (0, 0, 0), vU)]
theorem oL_nearest_7 : okAt mL_nearest bL_nearest_7 7 = true := by decide +kernel
theorem rL_nearest_7 {g : Gp} {Q : PQ} {L st : List AV} {h : AH} {u : Nat × Nat} (hr : run mL_nearest Q (fun pc L st h u => Ex g mL_nearest pc L st h u Q) bL_nearest_7 7 L st h u) : Ex g mL_nearest 7 L st h u Q := run_ok (M := mL_nearest) cfL_ok (fun _ _ _ _ _ k => k) _ _ _ _ _ _ oL_nearest_7 hr
def bL_nearest_13 : List OP := [(.iconst 1, 1, (0, 0, 0), vI 1), (.ireturn, 1, (0, 0, 0), vU)]
theorem oL_nearest_13 : okAt mL_nearest bL_nearest_13 13 = true := by decide +kernel
theorem rL_nearest_13 {g : Gp} {Q : PQ} {L st : List AV} {h : AH} {u : Nat × Nat} (hr : run mL_nearest Q (fun pc L st h u => Ex g mL_nearest pc L st h u Q) bL_nearest_13 13 L st h u) : Ex g mL_nearest 13 L st h u Q := run_ok (M := mL_nearest) cfL_ok (fun _ _ _ _ _ k => k) _ _ _ _ _ _ oL_nearest_13 hr
theorem w_nearest {g : Gp} {h : AH} {Q : PQ} {i1 : Int32} (hx : zK h 4 = (1, 9)) (ev : Ev g mX9_nearest [vR 4, vI i1] h (WQ [1] Q)) : Ev g mL_nearest [vR 4, vI i1, vR 122] h Q := by
  have fin : ∀ (k : Ex g mL_nearest 0 [vR 4, vI i1, vR 122, vU] [] h (0, 0) Q), Ev g mL_nearest [vR 4, vI i1, vR 122] h Q := fun k => Ev.of (by decide +kernel) rfl (Nat.le_of_ble_eq_true rfl) k
  refine fin ?_
  refine rL_nearest_0 ?_
  simp only [bL_nearest_0, run, Nat.reduceAdd, lg, st1, st2, lkill, lset, fvv, sfv, kind3, cat1, retI, retA, List.length_cons, List.length_nil, true_and, and_true, or_true, true_or, qL_nearest]
  refine Ex.callVX (av := [vI i1]) (rest := [vI 0, vR 122]) (r := (RX9, TX9, 10)) (N := mX9_nearest) mX9_nearest_ok rfl lkL_87 imX9_nearest seX9_nearest rfl hx (by decide) (by decide) (by decide) (Nat.le_of_ble_eq_true rfl) (by decide +kernel) ev (fun v h' q => ?_) (fun k h' q => ?_)
  · rcases v with _ | (v | v)
    · exact False.elim q
    · obtain ⟨k1, q⟩ := q
      refine Ex.wf (fun wf => ?_)
      refine rL_nearest_7 ?_
      simp only [bL_nearest_7, run, Nat.reduceAdd, lg, st1, st2, lkill, lset, fvv, sfv, kind3, cat1, retI, retA, List.length_cons, List.length_nil, true_and, and_true, or_true, true_or, qL_nearest, Option.toList, List.cons_append, List.nil_append, k1, kL, kI, kD, kR, rL, rI, rD, iL, iD, iR, lI, lD, lR, not_true_eq_false, not_false_eq_true, false_implies, true_and, and_true, tti]
      exact ⟨vin01, q wf⟩
    · exact False.elim q
  · obtain ⟨j, e, q⟩ := q
    rcases j with _ | j
    · obtain rfl : 1 = k := Option.some.inj e
      refine ⟨[], ⟨0, 9, 12, 27⟩, [], 3, 1, rfl, fun z hz => absurd hz List.not_mem_nil, by decide, (by decide : ¬ 27 = 0), by decide, by decide, wl_1, wc_1, Or.inr ⟨3, rfl, by decide +kernel, rfl⟩, Nat.le_of_ble_eq_true rfl, ?_⟩
      refine rL_nearest_13 ?_
      simp only [bL_nearest_13, run, Nat.reduceAdd, lg, st1, st2, lkill, lset, fvv, sfv, kind3, cat1, retI, retA, List.length_cons, List.length_nil, true_and, and_true, or_true, true_or, qL_nearest, not_true_eq_false, not_false_eq_true, false_implies, true_and, and_true, tti]
      exact q
    exact absurd e (by simp)
theorem qL_recalled : mR mL_recalled = (some FieldType.int) := rfl
theorem qCL_recalled : mC mL_recalled = 1 := rfl
theorem qSL_recalled : mS mL_recalled = 6 := rfl
def bL_recalled_0 : List OP := [(.aload_n 3, 1, (3, 0, 0), vU), (.iconst 0, 1, (0, 0, 0), vI 0), (.aload_n 0, 1, (0, 0, 0), vU), (.iload_n 1, 1, (1, 0, 0), vU), (.iload_n 2, 1, (2, 0, 0), vU)]
theorem oL_recalled_0 : okAt mL_recalled bL_recalled_0 0 = true := by decide +kernel
theorem rL_recalled_0 {g : Gp} {Q : PQ} {L st : List AV} {h : AH} {u : Nat × Nat} (hr : run mL_recalled Q (fun pc L st h u => Ex g mL_recalled pc L st h u Q) bL_recalled_0 0 L st h u) : Ex g mL_recalled 0 L st h u Q := run_ok (M := mL_recalled) cfL_ok (fun _ _ _ _ _ k => k) _ _ _ _ _ _ oL_recalled_0 hr
def bL_recalled_8 : List OP := [(.i2l, 1, (0, 0, 0), vU), (.lastore, 1, (0, 0, 0), vU), (.goto 7, 3, (17, 0, 0), vU), (.iconst 0, 1, (0, 0, 0), vI 0), (.ireturn, 1, (0, 0, 0), vU)]
theorem oL_recalled_8 : okAt mL_recalled bL_recalled_8 8 = true := by decide +kernel
theorem rL_recalled_8 {g : Gp} {Q : PQ} {L st : List AV} {h : AH} {u : Nat × Nat} (hr : run mL_recalled Q (fun pc L st h u => Ex g mL_recalled pc L st h u Q) bL_recalled_8 8 L st h u) : Ex g mL_recalled 8 L st h u Q := run_ok (M := mL_recalled) cfL_ok (fun _ _ _ _ _ k => k) _ _ _ _ _ _ oL_recalled_8 hr
def bL_recalled_15 : List OP := [(.iconst 1, 1, (0, 0, 0), vI 1), (.ireturn, 1, (0, 0, 0), vU)]
theorem oL_recalled_15 : okAt mL_recalled bL_recalled_15 15 = true := by decide +kernel
theorem rL_recalled_15 {g : Gp} {Q : PQ} {L st : List AV} {h : AH} {u : Nat × Nat} (hr : run mL_recalled Q (fun pc L st h u => Ex g mL_recalled pc L st h u Q) bL_recalled_15 15 L st h u) : Ex g mL_recalled 15 L st h u Q := run_ok (M := mL_recalled) cfL_ok (fun _ _ _ _ _ k => k) _ _ _ _ _ _ oL_recalled_15 hr
theorem w_recalled {g : Gp} {h : AH} {Q : PQ} {i1 i2 : Int32} (hx : zK h 4 = (1, 9)) (ev : Ev g mX9_recalled [vR 4, vI i1, vI i2] h (WQ [1] Q)) : Ev g mL_recalled [vR 4, vI i1, vI i2, vR 122] h Q := by
  have fin : ∀ (k : Ex g mL_recalled 0 [vR 4, vI i1, vI i2, vR 122, vU] [] h (0, 0) Q), Ev g mL_recalled [vR 4, vI i1, vI i2, vR 122] h Q := fun k => Ev.of (by decide +kernel) rfl (Nat.le_of_ble_eq_true rfl) k
  refine fin ?_
  refine rL_recalled_0 ?_
  simp only [bL_recalled_0, run, Nat.reduceAdd, lg, st1, st2, lkill, lset, fvv, sfv, kind3, cat1, retI, retA, List.length_cons, List.length_nil, true_and, and_true, or_true, true_or, qL_recalled]
  refine Ex.callVX (av := [vI i1, vI i2]) (rest := [vI 0, vR 122]) (r := (RX9, TX9, 10)) (N := mX9_recalled) mX9_recalled_ok rfl lkL_90 imX9_recalled seX9_recalled rfl hx (by decide) (by decide) (by decide) (Nat.le_of_ble_eq_true rfl) (by decide +kernel) ev (fun v h' q => ?_) (fun k h' q => ?_)
  · rcases v with _ | (v | v)
    · exact False.elim q
    · obtain ⟨k1, q⟩ := q
      refine Ex.wf (fun wf => ?_)
      refine rL_recalled_8 ?_
      simp only [bL_recalled_8, run, Nat.reduceAdd, lg, st1, st2, lkill, lset, fvv, sfv, kind3, cat1, retI, retA, List.length_cons, List.length_nil, true_and, and_true, or_true, true_or, qL_recalled, Option.toList, List.cons_append, List.nil_append, k1, kL, kI, kD, kR, rL, rI, rD, iL, iD, iR, lI, lD, lR, not_true_eq_false, not_false_eq_true, false_implies, true_and, and_true, tti]
      exact ⟨vin01, q wf⟩
    · exact False.elim q
  · obtain ⟨j, e, q⟩ := q
    rcases j with _ | j
    · obtain rfl : 1 = k := Option.some.inj e
      refine ⟨[], ⟨0, 10, 13, 27⟩, [], 4, 2, rfl, fun z hz => absurd hz List.not_mem_nil, by decide, (by decide : ¬ 27 = 0), by decide, by decide, wl_1, wc_1, Or.inl ⟨by decide +kernel, rfl⟩, Nat.le_of_ble_eq_true rfl, ?_⟩
      refine rL_recalled_15 ?_
      simp only [bL_recalled_15, run, Nat.reduceAdd, lg, st1, st2, lkill, lset, fvv, sfv, kind3, cat1, retI, retA, List.length_cons, List.length_nil, true_and, and_true, or_true, true_or, qL_recalled, not_true_eq_false, not_false_eq_true, false_implies, true_and, and_true, tti]
      exact q
    exact absurd e (by simp)
theorem qL_recalledAt : mR mL_recalledAt = (some FieldType.int) := rfl
theorem qCL_recalledAt : mC mL_recalledAt = 2 := rfl
theorem qSL_recalledAt : mS mL_recalledAt = 12 := rfl
def bL_recalledAt_0 : List OP := [(.aload 4, 2, (4, 0, 0), vU), (.iconst 0, 1, (0, 0, 0), vI 0), (.aload_n 0, 1, (0, 0, 0), vU), (.iload_n 1, 1, (1, 0, 0), vU), (.iload_n 2, 1, (2, 0, 0), vU), (.iload_n 3, 1, (3, 0, 0), vU)]
theorem oL_recalledAt_0 : okAt mL_recalledAt bL_recalledAt_0 0 = true := by decide +kernel
theorem rL_recalledAt_0 {g : Gp} {Q : PQ} {L st : List AV} {h : AH} {u : Nat × Nat} (hr : run mL_recalledAt Q (fun pc L st h u => Ex g mL_recalledAt pc L st h u Q) bL_recalledAt_0 0 L st h u) : Ex g mL_recalledAt 0 L st h u Q := run_ok (M := mL_recalledAt) cfL_ok (fun _ _ _ _ _ k => k) _ _ _ _ _ _ oL_recalledAt_0 hr
def bL_recalledAt_10 : List OP := [(.i2l, 1, (0, 0, 0), vU), (.lastore, 1, (0, 0, 0), vU), (.goto 7, 3, (19, 0, 0), vU), (.iconst 0, 1, (0, 0, 0), vI 0), (.ireturn, 1, (0, 0, 0), vU)]
theorem oL_recalledAt_10 : okAt mL_recalledAt bL_recalledAt_10 10 = true := by decide +kernel
theorem rL_recalledAt_10 {g : Gp} {Q : PQ} {L st : List AV} {h : AH} {u : Nat × Nat} (hr : run mL_recalledAt Q (fun pc L st h u => Ex g mL_recalledAt pc L st h u Q) bL_recalledAt_10 10 L st h u) : Ex g mL_recalledAt 10 L st h u Q := run_ok (M := mL_recalledAt) cfL_ok (fun _ _ _ _ _ k => k) _ _ _ _ _ _ oL_recalledAt_10 hr
def bL_recalledAt_17 : List OP := [(.iconst 1, 1, (0, 0, 0), vI 1), (.ireturn, 1, (0, 0, 0), vU)]
theorem oL_recalledAt_17 : okAt mL_recalledAt bL_recalledAt_17 17 = true := by decide +kernel
theorem rL_recalledAt_17 {g : Gp} {Q : PQ} {L st : List AV} {h : AH} {u : Nat × Nat} (hr : run mL_recalledAt Q (fun pc L st h u => Ex g mL_recalledAt pc L st h u Q) bL_recalledAt_17 17 L st h u) : Ex g mL_recalledAt 17 L st h u Q := run_ok (M := mL_recalledAt) cfL_ok (fun _ _ _ _ _ k => k) _ _ _ _ _ _ oL_recalledAt_17 hr
theorem w_recalledAt {g : Gp} {h : AH} {Q : PQ} {i1 i2 i3 : Int32} (hx : zK h 4 = (1, 9)) (ev : Ev g mX9_recalledAt [vR 4, vI i1, vI i2, vI i3] h (WQ [1] Q)) : Ev g mL_recalledAt [vR 4, vI i1, vI i2, vI i3, vR 122] h Q := by
  have fin : ∀ (k : Ex g mL_recalledAt 0 [vR 4, vI i1, vI i2, vI i3, vR 122, vU] [] h (0, 0) Q), Ev g mL_recalledAt [vR 4, vI i1, vI i2, vI i3, vR 122] h Q := fun k => Ev.of (by decide +kernel) rfl (Nat.le_of_ble_eq_true rfl) k
  refine fin ?_
  refine rL_recalledAt_0 ?_
  simp only [bL_recalledAt_0, run, Nat.reduceAdd, lg, st1, st2, lkill, lset, fvv, sfv, kind3, cat1, retI, retA, List.length_cons, List.length_nil, true_and, and_true, or_true, true_or, qL_recalledAt]
  refine Ex.callVX (av := [vI i1, vI i2, vI i3]) (rest := [vI 0, vR 122]) (r := (RX9, TX9, 10)) (N := mX9_recalledAt) mX9_recalledAt_ok rfl lkL_93 imX9_recalledAt seX9_recalledAt rfl hx (by decide) (by decide) (by decide) (Nat.le_of_ble_eq_true rfl) (by decide +kernel) ev (fun v h' q => ?_) (fun k h' q => ?_)
  · rcases v with _ | (v | v)
    · exact False.elim q
    · obtain ⟨k1, q⟩ := q
      refine Ex.wf (fun wf => ?_)
      refine rL_recalledAt_10 ?_
      simp only [bL_recalledAt_10, run, Nat.reduceAdd, lg, st1, st2, lkill, lset, fvv, sfv, kind3, cat1, retI, retA, List.length_cons, List.length_nil, true_and, and_true, or_true, true_or, qL_recalledAt, Option.toList, List.cons_append, List.nil_append, k1, kL, kI, kD, kR, rL, rI, rD, iL, iD, iR, lI, lD, lR, not_true_eq_false, not_false_eq_true, false_implies, true_and, and_true, tti]
      exact ⟨vin01, q wf⟩
    · exact False.elim q
  · obtain ⟨j, e, q⟩ := q
    rcases j with _ | j
    · obtain rfl : 1 = k := Option.some.inj e
      refine ⟨[], ⟨0, 12, 15, 27⟩, [], 5, 2, rfl, fun z hz => absurd hz List.not_mem_nil, by decide, (by decide : ¬ 27 = 0), by decide, by decide, wl_1, wc_1, Or.inl ⟨by decide +kernel, rfl⟩, Nat.le_of_ble_eq_true rfl, ?_⟩
      refine rL_recalledAt_17 ?_
      simp only [bL_recalledAt_17, run, Nat.reduceAdd, lg, st1, st2, lkill, lset, fvv, sfv, kind3, cat1, retI, retA, List.length_cons, List.length_nil, true_and, and_true, or_true, true_or, qL_recalledAt, not_true_eq_false, not_false_eq_true, false_implies, true_and, and_true, tti]
      exact q
    exact absurd e (by simp)
theorem qL_recalledWell : mR mL_recalledWell = (some FieldType.int) := rfl
theorem qCL_recalledWell : mC mL_recalledWell = 1 := rfl
theorem qSL_recalledWell : mS mL_recalledWell = 6 := rfl
def bL_recalledWell_0 : List OP := [(.aload_n 2, 1, (2, 0, 0), vU), (.iconst 0, 1, (0, 0, 0), vI 0), (.aload_n 0, 1, (0, 0, 0), vU), (.iload_n 1, 1, (1, 0, 0), vU)]
theorem oL_recalledWell_0 : okAt mL_recalledWell bL_recalledWell_0 0 = true := by decide +kernel
theorem rL_recalledWell_0 {g : Gp} {Q : PQ} {L st : List AV} {h : AH} {u : Nat × Nat} (hr : run mL_recalledWell Q (fun pc L st h u => Ex g mL_recalledWell pc L st h u Q) bL_recalledWell_0 0 L st h u) : Ex g mL_recalledWell 0 L st h u Q := run_ok (M := mL_recalledWell) cfL_ok (fun _ _ _ _ _ k => k) _ _ _ _ _ _ oL_recalledWell_0 hr
def bL_recalledWell_7 : List OP := [(.i2l, 1, (0, 0, 0), vU), (.lastore, 1, (0, 0, 0), vU), (.goto 6, 3, (15, 0, 0), vU), (.iconst 0, 1, (0, 0, 0), vI 0), (.ireturn, 1, (0, 0, 0), vU)]
theorem oL_recalledWell_7 : okAt mL_recalledWell bL_recalledWell_7 7 = true := by decide +kernel
theorem rL_recalledWell_7 {g : Gp} {Q : PQ} {L st : List AV} {h : AH} {u : Nat × Nat} (hr : run mL_recalledWell Q (fun pc L st h u => Ex g mL_recalledWell pc L st h u Q) bL_recalledWell_7 7 L st h u) : Ex g mL_recalledWell 7 L st h u Q := run_ok (M := mL_recalledWell) cfL_ok (fun _ _ _ _ _ k => k) _ _ _ _ _ _ oL_recalledWell_7 hr
def bL_recalledWell_13 : List OP := [(.iconst 1, 1, (0, 0, 0), vI 1), (.ireturn, 1, (0, 0, 0), vU)]
theorem oL_recalledWell_13 : okAt mL_recalledWell bL_recalledWell_13 13 = true := by decide +kernel
theorem rL_recalledWell_13 {g : Gp} {Q : PQ} {L st : List AV} {h : AH} {u : Nat × Nat} (hr : run mL_recalledWell Q (fun pc L st h u => Ex g mL_recalledWell pc L st h u Q) bL_recalledWell_13 13 L st h u) : Ex g mL_recalledWell 13 L st h u Q := run_ok (M := mL_recalledWell) cfL_ok (fun _ _ _ _ _ k => k) _ _ _ _ _ _ oL_recalledWell_13 hr
theorem w_recalledWell {g : Gp} {h : AH} {Q : PQ} {i1 : Int32} (hx : zK h 4 = (1, 9)) (ev : Ev g mX9_recalledWell [vR 4, vI i1] h (WQ [1] Q)) : Ev g mL_recalledWell [vR 4, vI i1, vR 122] h Q := by
  have fin : ∀ (k : Ex g mL_recalledWell 0 [vR 4, vI i1, vR 122, vU] [] h (0, 0) Q), Ev g mL_recalledWell [vR 4, vI i1, vR 122] h Q := fun k => Ev.of (by decide +kernel) rfl (Nat.le_of_ble_eq_true rfl) k
  refine fin ?_
  refine rL_recalledWell_0 ?_
  simp only [bL_recalledWell_0, run, Nat.reduceAdd, lg, st1, st2, lkill, lset, fvv, sfv, kind3, cat1, retI, retA, List.length_cons, List.length_nil, true_and, and_true, or_true, true_or, qL_recalledWell]
  refine Ex.callVX (av := [vI i1]) (rest := [vI 0, vR 122]) (r := (RX9, TX9, 10)) (N := mX9_recalledWell) mX9_recalledWell_ok rfl lkL_96 imX9_recalledWell seX9_recalledWell rfl hx (by decide) (by decide) (by decide) (Nat.le_of_ble_eq_true rfl) (by decide +kernel) ev (fun v h' q => ?_) (fun k h' q => ?_)
  · rcases v with _ | (v | v)
    · exact False.elim q
    · obtain ⟨k1, q⟩ := q
      refine Ex.wf (fun wf => ?_)
      refine rL_recalledWell_7 ?_
      simp only [bL_recalledWell_7, run, Nat.reduceAdd, lg, st1, st2, lkill, lset, fvv, sfv, kind3, cat1, retI, retA, List.length_cons, List.length_nil, true_and, and_true, or_true, true_or, qL_recalledWell, Option.toList, List.cons_append, List.nil_append, k1, kL, kI, kD, kR, rL, rI, rD, iL, iD, iR, lI, lD, lR, not_true_eq_false, not_false_eq_true, false_implies, true_and, and_true, tti]
      exact ⟨vin01, q wf⟩
    · exact False.elim q
  · obtain ⟨j, e, q⟩ := q
    rcases j with _ | j
    · obtain rfl : 1 = k := Option.some.inj e
      refine ⟨[], ⟨0, 9, 12, 27⟩, [], 3, 1, rfl, fun z hz => absurd hz List.not_mem_nil, by decide, (by decide : ¬ 27 = 0), by decide, by decide, wl_1, wc_1, Or.inr ⟨3, rfl, by decide +kernel, rfl⟩, Nat.le_of_ble_eq_true rfl, ?_⟩
      refine rL_recalledWell_13 ?_
      simp only [bL_recalledWell_13, run, Nat.reduceAdd, lg, st1, st2, lkill, lset, fvv, sfv, kind3, cat1, retI, retA, List.length_cons, List.length_nil, true_and, and_true, or_true, true_or, qL_recalledWell, not_true_eq_false, not_false_eq_true, false_implies, true_and, and_true, tti]
      exact q
    exact absurd e (by simp)
theorem qL_swapped : mR mL_swapped = (some FieldType.int) := rfl
theorem qCL_swapped : mC mL_swapped = 25 := rfl
theorem qSL_swapped : mS mL_swapped = 312 := rfl
def bL_swapped_0 : List OP := [(.aload_n 3, 1, (3, 0, 0), vU), (.iconst 0, 1, (0, 0, 0), vI 0), (.aload_n 0, 1, (0, 0, 0), vU), (.iload_n 1, 1, (1, 0, 0), vU), (.iload_n 2, 1, (2, 0, 0), vU)]
theorem oL_swapped_0 : okAt mL_swapped bL_swapped_0 0 = true := by decide +kernel
theorem rL_swapped_0 {g : Gp} {Q : PQ} {L st : List AV} {h : AH} {u : Nat × Nat} (hr : run mL_swapped Q (fun pc L st h u => Ex g mL_swapped pc L st h u Q) bL_swapped_0 0 L st h u) : Ex g mL_swapped 0 L st h u Q := run_ok (M := mL_swapped) cfL_ok (fun _ _ _ _ _ k => k) _ _ _ _ _ _ oL_swapped_0 hr
def bL_swapped_8 : List OP := [(.i2l, 1, (0, 0, 0), vU), (.lastore, 1, (0, 0, 0), vU), (.goto 11, 3, (21, 0, 0), vU), (.iconst 0, 1, (0, 0, 0), vI 0), (.ireturn, 1, (0, 0, 0), vU)]
theorem oL_swapped_8 : okAt mL_swapped bL_swapped_8 8 = true := by decide +kernel
theorem rL_swapped_8 {g : Gp} {Q : PQ} {L st : List AV} {h : AH} {u : Nat × Nat} (hr : run mL_swapped Q (fun pc L st h u => Ex g mL_swapped pc L st h u Q) bL_swapped_8 8 L st h u) : Ex g mL_swapped 8 L st h u Q := run_ok (M := mL_swapped) cfL_ok (fun _ _ _ _ _ k => k) _ _ _ _ _ _ oL_swapped_8 hr
def bL_swapped_15 : List OP := [(.iconst 1, 1, (0, 0, 0), vI 1), (.ireturn, 1, (0, 0, 0), vU)]
theorem oL_swapped_15 : okAt mL_swapped bL_swapped_15 15 = true := by decide +kernel
theorem rL_swapped_15 {g : Gp} {Q : PQ} {L st : List AV} {h : AH} {u : Nat × Nat} (hr : run mL_swapped Q (fun pc L st h u => Ex g mL_swapped pc L st h u Q) bL_swapped_15 15 L st h u) : Ex g mL_swapped 15 L st h u Q := run_ok (M := mL_swapped) cfL_ok (fun _ _ _ _ _ k => k) _ _ _ _ _ _ oL_swapped_15 hr
def bL_swapped_19 : List OP := [(.iconst 2, 1, (0, 0, 0), vI 2), (.ireturn, 1, (0, 0, 0), vU)]
theorem oL_swapped_19 : okAt mL_swapped bL_swapped_19 19 = true := by decide +kernel
theorem rL_swapped_19 {g : Gp} {Q : PQ} {L st : List AV} {h : AH} {u : Nat × Nat} (hr : run mL_swapped Q (fun pc L st h u => Ex g mL_swapped pc L st h u Q) bL_swapped_19 19 L st h u) : Ex g mL_swapped 19 L st h u Q := run_ok (M := mL_swapped) cfL_ok (fun _ _ _ _ _ k => k) _ _ _ _ _ _ oL_swapped_19 hr
theorem w_swapped {g : Gp} {h : AH} {Q : PQ} {i1 i2 : Int32} (hx : zK h 4 = (1, 9)) (ev : Ev g mX9_swapped [vR 4, vI i1, vI i2] h (WQ [1, 2] Q)) : Ev g mL_swapped [vR 4, vI i1, vI i2, vR 122] h Q := by
  have fin : ∀ (k : Ex g mL_swapped 0 [vR 4, vI i1, vI i2, vR 122, vU] [] h (0, 0) Q), Ev g mL_swapped [vR 4, vI i1, vI i2, vR 122] h Q := fun k => Ev.of (by decide +kernel) rfl (Nat.le_of_ble_eq_true rfl) k
  refine fin ?_
  refine rL_swapped_0 ?_
  simp only [bL_swapped_0, run, Nat.reduceAdd, lg, st1, st2, lkill, lset, fvv, sfv, kind3, cat1, retI, retA, List.length_cons, List.length_nil, true_and, and_true, or_true, true_or, qL_swapped]
  refine Ex.callVX (av := [vI i1, vI i2]) (rest := [vI 0, vR 122]) (r := (RX9, TX9, 10)) (N := mX9_swapped) mX9_swapped_ok rfl lkL_99 imX9_swapped seX9_swapped rfl hx (by decide) (by decide) (by decide) (Nat.le_of_ble_eq_true rfl) (by decide +kernel) ev (fun v h' q => ?_) (fun k h' q => ?_)
  · rcases v with _ | (v | v)
    · exact False.elim q
    · obtain ⟨k1, q⟩ := q
      refine Ex.wf (fun wf => ?_)
      refine rL_swapped_8 ?_
      simp only [bL_swapped_8, run, Nat.reduceAdd, lg, st1, st2, lkill, lset, fvv, sfv, kind3, cat1, retI, retA, List.length_cons, List.length_nil, true_and, and_true, or_true, true_or, qL_swapped, Option.toList, List.cons_append, List.nil_append, k1, kL, kI, kD, kR, rL, rI, rD, iL, iD, iR, lI, lD, lR, not_true_eq_false, not_false_eq_true, false_implies, true_and, and_true, tti]
      exact ⟨vin01, q wf⟩
    · exact False.elim q
  · obtain ⟨j, e, q⟩ := q
    rcases j with _ | j
    · obtain rfl : 1 = k := Option.some.inj e
      refine ⟨[], ⟨0, 10, 13, 27⟩, [⟨0, 10, 17, 13⟩], 4, 2, rfl, fun z hz => absurd hz List.not_mem_nil, by decide, (by decide : ¬ 27 = 0), by decide, by decide, wl_1, wc_1, Or.inl ⟨by decide +kernel, rfl⟩, Nat.le_of_ble_eq_true rfl, ?_⟩
      refine rL_swapped_15 ?_
      simp only [bL_swapped_15, run, Nat.reduceAdd, lg, st1, st2, lkill, lset, fvv, sfv, kind3, cat1, retI, retA, List.length_cons, List.length_nil, true_and, and_true, or_true, true_or, qL_swapped, not_true_eq_false, not_false_eq_true, false_implies, true_and, and_true, tti]
      exact q
    rcases j with _ | j
    · obtain rfl : 2 = k := Option.some.inj e
      refine ⟨[⟨0, 10, 13, 27⟩], ⟨0, 10, 17, 13⟩, [], 4, 2, rfl, List.forall_mem_cons.mpr ⟨⟨(by decide : ¬ 27 = 0), 1, by decide, by decide, by decide, wl_1⟩, fun _ h => absurd h List.not_mem_nil⟩, by decide, (by decide : ¬ 13 = 0), by decide, by decide, wl_2, wc_2, Or.inl ⟨by decide +kernel, rfl⟩, Nat.le_of_ble_eq_true rfl, ?_⟩
      refine rL_swapped_19 ?_
      simp only [bL_swapped_19, run, Nat.reduceAdd, lg, st1, st2, lkill, lset, fvv, sfv, kind3, cat1, retI, retA, List.length_cons, List.length_nil, true_and, and_true, or_true, true_or, qL_swapped, not_true_eq_false, not_false_eq_true, false_implies, true_and, and_true, tti]
      exact q
    exact absurd e (by simp)
theorem qL_without : mR mL_without = (some FieldType.int) := rfl
theorem qCL_without : mC mL_without = 23 := rfl
theorem qSL_without : mS mL_without = 291 := rfl
def bL_without_0 : List OP := [(.aload_n 3, 1, (3, 0, 0), vU), (.iconst 0, 1, (0, 0, 0), vI 0), (.aload_n 0, 1, (0, 0, 0), vU), (.iload_n 1, 1, (1, 0, 0), vU), (.iload_n 2, 1, (2, 0, 0), vU)]
theorem oL_without_0 : okAt mL_without bL_without_0 0 = true := by decide +kernel
theorem rL_without_0 {g : Gp} {Q : PQ} {L st : List AV} {h : AH} {u : Nat × Nat} (hr : run mL_without Q (fun pc L st h u => Ex g mL_without pc L st h u Q) bL_without_0 0 L st h u) : Ex g mL_without 0 L st h u Q := run_ok (M := mL_without) cfL_ok (fun _ _ _ _ _ k => k) _ _ _ _ _ _ oL_without_0 hr
def bL_without_8 : List OP := [(.i2l, 1, (0, 0, 0), vU), (.lastore, 1, (0, 0, 0), vU), (.goto 7, 3, (17, 0, 0), vU), (.iconst 0, 1, (0, 0, 0), vI 0), (.ireturn, 1, (0, 0, 0), vU)]
theorem oL_without_8 : okAt mL_without bL_without_8 8 = true := by decide +kernel
theorem rL_without_8 {g : Gp} {Q : PQ} {L st : List AV} {h : AH} {u : Nat × Nat} (hr : run mL_without Q (fun pc L st h u => Ex g mL_without pc L st h u Q) bL_without_8 8 L st h u) : Ex g mL_without 8 L st h u Q := run_ok (M := mL_without) cfL_ok (fun _ _ _ _ _ k => k) _ _ _ _ _ _ oL_without_8 hr
def bL_without_15 : List OP := [(.iconst 1, 1, (0, 0, 0), vI 1), (.ireturn, 1, (0, 0, 0), vU)]
theorem oL_without_15 : okAt mL_without bL_without_15 15 = true := by decide +kernel
theorem rL_without_15 {g : Gp} {Q : PQ} {L st : List AV} {h : AH} {u : Nat × Nat} (hr : run mL_without Q (fun pc L st h u => Ex g mL_without pc L st h u Q) bL_without_15 15 L st h u) : Ex g mL_without 15 L st h u Q := run_ok (M := mL_without) cfL_ok (fun _ _ _ _ _ k => k) _ _ _ _ _ _ oL_without_15 hr
theorem w_without {g : Gp} {h : AH} {Q : PQ} {i1 i2 : Int32} (hx : zK h 4 = (1, 9)) (ev : Ev g mX9_without [vR 4, vI i1, vI i2] h (WQ [1] Q)) : Ev g mL_without [vR 4, vI i1, vI i2, vR 122] h Q := by
  have fin : ∀ (k : Ex g mL_without 0 [vR 4, vI i1, vI i2, vR 122, vU] [] h (0, 0) Q), Ev g mL_without [vR 4, vI i1, vI i2, vR 122] h Q := fun k => Ev.of (by decide +kernel) rfl (Nat.le_of_ble_eq_true rfl) k
  refine fin ?_
  refine rL_without_0 ?_
  simp only [bL_without_0, run, Nat.reduceAdd, lg, st1, st2, lkill, lset, fvv, sfv, kind3, cat1, retI, retA, List.length_cons, List.length_nil, true_and, and_true, or_true, true_or, qL_without]
  refine Ex.callVX (av := [vI i1, vI i2]) (rest := [vI 0, vR 122]) (r := (RX9, TX9, 10)) (N := mX9_without) mX9_without_ok rfl lkL_102 imX9_without seX9_without rfl hx (by decide) (by decide) (by decide) (Nat.le_of_ble_eq_true rfl) (by decide +kernel) ev (fun v h' q => ?_) (fun k h' q => ?_)
  · rcases v with _ | (v | v)
    · exact False.elim q
    · obtain ⟨k1, q⟩ := q
      refine Ex.wf (fun wf => ?_)
      refine rL_without_8 ?_
      simp only [bL_without_8, run, Nat.reduceAdd, lg, st1, st2, lkill, lset, fvv, sfv, kind3, cat1, retI, retA, List.length_cons, List.length_nil, true_and, and_true, or_true, true_or, qL_without, Option.toList, List.cons_append, List.nil_append, k1, kL, kI, kD, kR, rL, rI, rD, iL, iD, iR, lI, lD, lR, not_true_eq_false, not_false_eq_true, false_implies, true_and, and_true, tti]
      exact ⟨vin01, q wf⟩
    · exact False.elim q
  · obtain ⟨j, e, q⟩ := q
    rcases j with _ | j
    · obtain rfl : 1 = k := Option.some.inj e
      refine ⟨[], ⟨0, 10, 13, 27⟩, [], 4, 2, rfl, fun z hz => absurd hz List.not_mem_nil, by decide, (by decide : ¬ 27 = 0), by decide, by decide, wl_1, wc_1, Or.inl ⟨by decide +kernel, rfl⟩, Nat.le_of_ble_eq_true rfl, ?_⟩
      refine rL_without_15 ?_
      simp only [bL_without_15, run, Nat.reduceAdd, lg, st1, st2, lkill, lset, fvv, sfv, kind3, cat1, retI, retA, List.length_cons, List.length_nil, true_and, and_true, or_true, true_or, qL_without, not_true_eq_false, not_false_eq_true, false_implies, true_and, and_true, tti]
      exact q
    exact absurd e (by simp)
theorem qL_withoutLoan : mR mL_withoutLoan = (some FieldType.int) := rfl
theorem qCL_withoutLoan : mC mL_withoutLoan = 15 := rfl
theorem qSL_withoutLoan : mS mL_withoutLoan = 191 := rfl
def bL_withoutLoan_0 : List OP := [(.aload_n 2, 1, (2, 0, 0), vU), (.iconst 0, 1, (0, 0, 0), vI 0), (.aload_n 0, 1, (0, 0, 0), vU), (.iload_n 1, 1, (1, 0, 0), vU)]
theorem oL_withoutLoan_0 : okAt mL_withoutLoan bL_withoutLoan_0 0 = true := by decide +kernel
theorem rL_withoutLoan_0 {g : Gp} {Q : PQ} {L st : List AV} {h : AH} {u : Nat × Nat} (hr : run mL_withoutLoan Q (fun pc L st h u => Ex g mL_withoutLoan pc L st h u Q) bL_withoutLoan_0 0 L st h u) : Ex g mL_withoutLoan 0 L st h u Q := run_ok (M := mL_withoutLoan) cfL_ok (fun _ _ _ _ _ k => k) _ _ _ _ _ _ oL_withoutLoan_0 hr
def bL_withoutLoan_7 : List OP := [(.i2l, 1, (0, 0, 0), vU), (.lastore, 1, (0, 0, 0), vU), (.goto 6, 3, (15, 0, 0), vU), (.iconst 0, 1, (0, 0, 0), vI 0), (.ireturn, 1, (0, 0, 0), vU)]
theorem oL_withoutLoan_7 : okAt mL_withoutLoan bL_withoutLoan_7 7 = true := by decide +kernel
theorem rL_withoutLoan_7 {g : Gp} {Q : PQ} {L st : List AV} {h : AH} {u : Nat × Nat} (hr : run mL_withoutLoan Q (fun pc L st h u => Ex g mL_withoutLoan pc L st h u Q) bL_withoutLoan_7 7 L st h u) : Ex g mL_withoutLoan 7 L st h u Q := run_ok (M := mL_withoutLoan) cfL_ok (fun _ _ _ _ _ k => k) _ _ _ _ _ _ oL_withoutLoan_7 hr
def bL_withoutLoan_13 : List OP := [(.iconst 1, 1, (0, 0, 0), vI 1), (.ireturn, 1, (0, 0, 0), vU)]
theorem oL_withoutLoan_13 : okAt mL_withoutLoan bL_withoutLoan_13 13 = true := by decide +kernel
theorem rL_withoutLoan_13 {g : Gp} {Q : PQ} {L st : List AV} {h : AH} {u : Nat × Nat} (hr : run mL_withoutLoan Q (fun pc L st h u => Ex g mL_withoutLoan pc L st h u Q) bL_withoutLoan_13 13 L st h u) : Ex g mL_withoutLoan 13 L st h u Q := run_ok (M := mL_withoutLoan) cfL_ok (fun _ _ _ _ _ k => k) _ _ _ _ _ _ oL_withoutLoan_13 hr
theorem w_withoutLoan {g : Gp} {h : AH} {Q : PQ} {i1 : Int32} (hx : zK h 4 = (1, 9)) (ev : Ev g mX9_withoutLoan [vR 4, vI i1] h (WQ [1] Q)) : Ev g mL_withoutLoan [vR 4, vI i1, vR 122] h Q := by
  have fin : ∀ (k : Ex g mL_withoutLoan 0 [vR 4, vI i1, vR 122, vU] [] h (0, 0) Q), Ev g mL_withoutLoan [vR 4, vI i1, vR 122] h Q := fun k => Ev.of (by decide +kernel) rfl (Nat.le_of_ble_eq_true rfl) k
  refine fin ?_
  refine rL_withoutLoan_0 ?_
  simp only [bL_withoutLoan_0, run, Nat.reduceAdd, lg, st1, st2, lkill, lset, fvv, sfv, kind3, cat1, retI, retA, List.length_cons, List.length_nil, true_and, and_true, or_true, true_or, qL_withoutLoan]
  refine Ex.callVX (av := [vI i1]) (rest := [vI 0, vR 122]) (r := (RX9, TX9, 10)) (N := mX9_withoutLoan) mX9_withoutLoan_ok rfl lkL_105 imX9_withoutLoan seX9_withoutLoan rfl hx (by decide) (by decide) (by decide) (Nat.le_of_ble_eq_true rfl) (by decide +kernel) ev (fun v h' q => ?_) (fun k h' q => ?_)
  · rcases v with _ | (v | v)
    · exact False.elim q
    · obtain ⟨k1, q⟩ := q
      refine Ex.wf (fun wf => ?_)
      refine rL_withoutLoan_7 ?_
      simp only [bL_withoutLoan_7, run, Nat.reduceAdd, lg, st1, st2, lkill, lset, fvv, sfv, kind3, cat1, retI, retA, List.length_cons, List.length_nil, true_and, and_true, or_true, true_or, qL_withoutLoan, Option.toList, List.cons_append, List.nil_append, k1, kL, kI, kD, kR, rL, rI, rD, iL, iD, iR, lI, lD, lR, not_true_eq_false, not_false_eq_true, false_implies, true_and, and_true, tti]
      exact ⟨vin01, q wf⟩
    · exact False.elim q
  · obtain ⟨j, e, q⟩ := q
    rcases j with _ | j
    · obtain rfl : 1 = k := Option.some.inj e
      refine ⟨[], ⟨0, 9, 12, 27⟩, [], 3, 1, rfl, fun z hz => absurd hz List.not_mem_nil, by decide, (by decide : ¬ 27 = 0), by decide, by decide, wl_1, wc_1, Or.inr ⟨3, rfl, by decide +kernel, rfl⟩, Nat.le_of_ble_eq_true rfl, ?_⟩
      refine rL_withoutLoan_13 ?_
      simp only [bL_withoutLoan_13, run, Nat.reduceAdd, lg, st1, st2, lkill, lset, fvv, sfv, kind3, cat1, retI, retA, List.length_cons, List.length_nil, true_and, and_true, or_true, true_or, qL_withoutLoan, not_true_eq_false, not_false_eq_true, false_implies, true_and, and_true, tti]
      exact q
    exact absurd e (by simp)
theorem qL_looksLent : mR mL_looksLent = (some FieldType.int) := rfl
theorem qCL_looksLent : mC mL_looksLent = 1 := rfl
theorem qSL_looksLent : mS mL_looksLent = 6 := rfl
def bL_looksLent_0 : List OP := [(.aload_n 3, 1, (3, 0, 0), vU), (.iconst 0, 1, (0, 0, 0), vI 0), (.aload_n 0, 1, (0, 0, 0), vU), (.iload_n 1, 1, (1, 0, 0), vU), (.iload_n 2, 1, (2, 0, 0), vU)]
theorem oL_looksLent_0 : okAt mL_looksLent bL_looksLent_0 0 = true := by decide +kernel
theorem rL_looksLent_0 {g : Gp} {Q : PQ} {L st : List AV} {h : AH} {u : Nat × Nat} (hr : run mL_looksLent Q (fun pc L st h u => Ex g mL_looksLent pc L st h u Q) bL_looksLent_0 0 L st h u) : Ex g mL_looksLent 0 L st h u Q := run_ok (M := mL_looksLent) cfL_ok (fun _ _ _ _ _ k => k) _ _ _ _ _ _ oL_looksLent_0 hr
def bL_looksLent_8 : List OP := [(.ifCond .eq 7, 3, (15, 0, 0), vU), (.lconst 1, 1, (0, 0, 0), vL 1), (.goto 4, 3, (16, 0, 0), vU), (.lastore, 1, (0, 0, 0), vU), (.goto 7, 3, (24, 0, 0), vU), (.iconst 0, 1, (0, 0, 0), vI 0), (.ireturn, 1, (0, 0, 0), vU)]
theorem oL_looksLent_8 : okAt mL_looksLent bL_looksLent_8 8 = true := by decide +kernel
theorem rL_looksLent_8 {g : Gp} {Q : PQ} {L st : List AV} {h : AH} {u : Nat × Nat} (hr : run mL_looksLent Q (fun pc L st h u => Ex g mL_looksLent pc L st h u Q) bL_looksLent_8 8 L st h u) : Ex g mL_looksLent 8 L st h u Q := run_ok (M := mL_looksLent) cfL_ok (fun _ _ _ _ _ k => k) _ _ _ _ _ _ oL_looksLent_8 hr
def bL_looksLent_15 : List OP := [(.lconst 0, 1, (0, 0, 0), vL 0), (.lastore, 1, (0, 0, 0), vU), (.goto 7, 3, (24, 0, 0), vU), (.iconst 0, 1, (0, 0, 0), vI 0), (.ireturn, 1, (0, 0, 0), vU)]
theorem oL_looksLent_15 : okAt mL_looksLent bL_looksLent_15 15 = true := by decide +kernel
theorem rL_looksLent_15 {g : Gp} {Q : PQ} {L st : List AV} {h : AH} {u : Nat × Nat} (hr : run mL_looksLent Q (fun pc L st h u => Ex g mL_looksLent pc L st h u Q) bL_looksLent_15 15 L st h u) : Ex g mL_looksLent 15 L st h u Q := run_ok (M := mL_looksLent) cfL_ok (fun _ _ _ _ _ k => k) _ _ _ _ _ _ oL_looksLent_15 hr
def bL_looksLent_22 : List OP := [(.iconst 1, 1, (0, 0, 0), vI 1), (.ireturn, 1, (0, 0, 0), vU)]
theorem oL_looksLent_22 : okAt mL_looksLent bL_looksLent_22 22 = true := by decide +kernel
theorem rL_looksLent_22 {g : Gp} {Q : PQ} {L st : List AV} {h : AH} {u : Nat × Nat} (hr : run mL_looksLent Q (fun pc L st h u => Ex g mL_looksLent pc L st h u Q) bL_looksLent_22 22 L st h u) : Ex g mL_looksLent 22 L st h u Q := run_ok (M := mL_looksLent) cfL_ok (fun _ _ _ _ _ k => k) _ _ _ _ _ _ oL_looksLent_22 hr
theorem w_looksLent {g : Gp} {h : AH} {Q : PQ} {i1 i2 : Int32} (hx : zK h 4 = (1, 9)) (ev : Ev g mX9_looksLent [vR 4, vI i1, vI i2] h (WQb [1] Q)) : Ev g mL_looksLent [vR 4, vI i1, vI i2, vR 122] h Q := by
  have fin : ∀ (k : Ex g mL_looksLent 0 [vR 4, vI i1, vI i2, vR 122, vU] [] h (0, 0) Q), Ev g mL_looksLent [vR 4, vI i1, vI i2, vR 122] h Q := fun k => Ev.of (by decide +kernel) rfl (Nat.le_of_ble_eq_true rfl) k
  refine fin ?_
  refine rL_looksLent_0 ?_
  simp only [bL_looksLent_0, run, Nat.reduceAdd, lg, st1, st2, lkill, lset, fvv, sfv, kind3, cat1, retI, retA, List.length_cons, List.length_nil, true_and, and_true, or_true, true_or, qL_looksLent]
  refine Ex.callVX (av := [vI i1, vI i2]) (rest := [vI 0, vR 122]) (r := (RX9, TX9, 10)) (N := mX9_looksLent) mX9_looksLent_ok rfl lkL_108 imX9_looksLent seX9_looksLent rfl hx (by decide) (by decide) (by decide) (Nat.le_of_ble_eq_true rfl) (by decide +kernel) ev (fun v h' q => ?_) (fun k h' q => ?_)
  · rcases v with _ | (v | v)
    · exact False.elim q
    · obtain ⟨k1, q1, q⟩ := q
      refine Ex.wf (fun wf => ?_)
      rcases q1 with rfl | rfl
      · refine rL_looksLent_8 ?_
        simp only [bL_looksLent_8, run, Nat.reduceAdd, lg, st1, st2, lkill, lset, fvv, sfv, kind3, cat1, retI, retA, List.length_cons, List.length_nil, true_and, and_true, or_true, true_or, qL_looksLent, Option.toList, List.cons_append, List.nil_append, k1, kL, kI, kD, kR, rL, rI, rD, iL, iD, iR, lI, lD, lR, not_true_eq_false, not_false_eq_true, false_implies, true_and, and_true, tti, show ((0 : Int32) = 0) = True by decide]
        refine rL_looksLent_15 ?_
        simp only [bL_looksLent_15, run, Nat.reduceAdd, lg, st1, st2, lkill, lset, fvv, sfv, kind3, cat1, retI, retA, List.length_cons, List.length_nil, true_and, and_true, or_true, true_or, qL_looksLent, k1, kL, kI, kD, kR, rL, rI, rD, iL, iD, iR, lI, lD, lR, not_true_eq_false, not_false_eq_true, false_implies, true_and, and_true, tti]
        exact ⟨vin01, q wf⟩
      · refine rL_looksLent_8 ?_
        simp only [bL_looksLent_8, run, Nat.reduceAdd, lg, st1, st2, lkill, lset, fvv, sfv, kind3, cat1, retI, retA, List.length_cons, List.length_nil, true_and, and_true, or_true, true_or, qL_looksLent, Option.toList, List.cons_append, List.nil_append, k1, kL, kI, kD, kR, rL, rI, rD, iL, iD, iR, lI, lD, lR, not_true_eq_false, not_false_eq_true, false_implies, true_and, and_true, tti, show ((1 : Int32) = 0) = False by decide]
        exact ⟨vin01, q wf⟩
    · exact False.elim q
  · obtain ⟨j, e, q⟩ := q
    rcases j with _ | j
    · obtain rfl : 1 = k := Option.some.inj e
      refine ⟨[], ⟨0, 17, 20, 27⟩, [], 4, 2, rfl, fun z hz => absurd hz List.not_mem_nil, by decide, (by decide : ¬ 27 = 0), by decide, by decide, wl_1, wc_1, Or.inl ⟨by decide +kernel, rfl⟩, Nat.le_of_ble_eq_true rfl, ?_⟩
      refine rL_looksLent_22 ?_
      simp only [bL_looksLent_22, run, Nat.reduceAdd, lg, st1, st2, lkill, lset, fvv, sfv, kind3, cat1, retI, retA, List.length_cons, List.length_nil, true_and, and_true, or_true, true_or, qL_looksLent, not_true_eq_false, not_false_eq_true, false_implies, true_and, and_true, tti]
      exact q
    exact absurd e (by simp)
