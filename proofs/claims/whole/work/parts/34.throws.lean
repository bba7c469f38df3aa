/-! ===== what the calls look at before they do anything ===== -/
theorem nX9_requireThere {g : Gp} {h : AH} {Q : PQ} {i1 : Int32} (k : Ex g mX9_requireThere 0 [vI i1] [] h (0, 0) Q) : Ev g mX9_requireThere [vI i1] h Q := Ev.of (by decide +kernel) rfl (Nat.le_of_ble_eq_true rfl) k
theorem qX9_requireThere : mR mX9_requireThere = none := rfl
def bX9_requireThere_0 : List OP := [(.iload_n 0, 1, (0, 0, 0), vU), (.ifCond .ne 14, 3, (15, 0, 0), vU)]
theorem oX9_requireThere_0 : okAt mX9_requireThere bX9_requireThere_0 0 = true := by decide +kernel
theorem rX9_requireThere_0 {g : Gp} {Q : PQ} {L st : List AV} {h : AH} {u : Nat × Nat} (hr : run mX9_requireThere Q (fun pc L st h u => Ex g mX9_requireThere pc L st h u Q) bX9_requireThere_0 0 L st h u) : Ex g mX9_requireThere 0 L st h u Q := run_ok (M := mX9_requireThere) cfX9_ok (fun _ _ _ _ _ k => k) _ _ _ _ _ _ oX9_requireThere_0 hr
def bX9_requireThere_15 : List OP := [(.return_, 1, (0, 0, 0), vU)]
theorem oX9_requireThere_15 : okAt mX9_requireThere bX9_requireThere_15 15 = true := by decide +kernel
theorem rX9_requireThere_15 {g : Gp} {Q : PQ} {L st : List AV} {h : AH} {u : Nat × Nat} (hr : run mX9_requireThere Q (fun pc L st h u => Ex g mX9_requireThere pc L st h u Q) bX9_requireThere_15 15 L st h u) : Ex g mX9_requireThere 15 L st h u Q := run_ok (M := mX9_requireThere) cfX9_ok (fun _ _ _ _ _ k => k) _ _ _ _ _ _ oX9_requireThere_15 hr
theorem th_requireThere : ThOk RX9 294 298 (exN 1) := ⟨lg_mem (by decide +kernel) rfl, lg_mem (by decide +kernel) rfl, by decide +kernel, by decide +kernel, by decide +kernel, by decide +kernel, by decide +kernel⟩
theorem e_requireThere {g : Gp} {b : Int32} {h : AH} {Q : PQ} (h1 : ¬ b = 0 → Q (.inl none) h) (h2 : b = 0 → ∀ n, zN h ≤ n → Q (.inr 1) (bump h n)) : Ev g mX9_requireThere [vI b] h Q := by
  refine nX9_requireThere ?_
  refine rX9_requireThere_0 ?_
  simp only [bX9_requireThere_0, run, Nat.reduceAdd, lg, st1, st2, lkill, lset, fvv, sfv, kind3, cat1, retI, retA, List.length_cons, List.length_nil, true_and, and_true, or_true, true_or, qX9_requireThere]
  refine ⟨fun h0 => ?_, fun h0 => ?_⟩
  · refine rX9_requireThere_15 ?_
    simp only [bX9_requireThere_15, run, Nat.reduceAdd, lg, st1, st2, lkill, lset, fvv, sfv, kind3, cat1, retI, retA, List.length_cons, List.length_nil, true_and, and_true, or_true, true_or, qX9_requireThere]
    exact h1 h0
  · refine x_throw (ik := 294) (is := 296) (text := "no such language, meaning, place, law or loan") (ic := 298) (k := 1) rfl th_requireThere (fun s ho => ?_) (by decide) (by decide) (by decide) (by decide) (by decide +kernel) (by decide +kernel) (by decide +kernel) (by decide +kernel) (by decide +kernel) (h2 (by simpa using h0))
    obtain ⟨_, _, _, _, _, _, _, _, _, h9, h10, h11, -⟩ := ho
    exact h9
theorem nX9_refuseUnless {g : Gp} {h : AH} {Q : PQ} {i1 : Int32} (k : Ex g mX9_refuseUnless 0 [vI i1] [] h (0, 0) Q) : Ev g mX9_refuseUnless [vI i1] h Q := Ev.of (by decide +kernel) rfl (Nat.le_of_ble_eq_true rfl) k
theorem qX9_refuseUnless : mR mX9_refuseUnless = none := rfl
def bX9_refuseUnless_0 : List OP := [(.iload_n 0, 1, (0, 0, 0), vU), (.ifCond .ne 14, 3, (15, 0, 0), vU)]
theorem oX9_refuseUnless_0 : okAt mX9_refuseUnless bX9_refuseUnless_0 0 = true := by decide +kernel
theorem rX9_refuseUnless_0 {g : Gp} {Q : PQ} {L st : List AV} {h : AH} {u : Nat × Nat} (hr : run mX9_refuseUnless Q (fun pc L st h u => Ex g mX9_refuseUnless pc L st h u Q) bX9_refuseUnless_0 0 L st h u) : Ex g mX9_refuseUnless 0 L st h u Q := run_ok (M := mX9_refuseUnless) cfX9_ok (fun _ _ _ _ _ k => k) _ _ _ _ _ _ oX9_refuseUnless_0 hr
def bX9_refuseUnless_15 : List OP := [(.return_, 1, (0, 0, 0), vU)]
theorem oX9_refuseUnless_15 : okAt mX9_refuseUnless bX9_refuseUnless_15 15 = true := by decide +kernel
theorem rX9_refuseUnless_15 {g : Gp} {Q : PQ} {L st : List AV} {h : AH} {u : Nat × Nat} (hr : run mX9_refuseUnless Q (fun pc L st h u => Ex g mX9_refuseUnless pc L st h u Q) bX9_refuseUnless_15 15 L st h u) : Ex g mX9_refuseUnless 15 L st h u Q := run_ok (M := mX9_refuseUnless) cfX9_ok (fun _ _ _ _ _ k => k) _ _ _ _ _ _ oX9_refuseUnless_15 hr
theorem th_refuseUnless : ThOk RX9 301 305 (exN 2) := ⟨lg_mem (by decide +kernel) rfl, lg_mem (by decide +kernel) rfl, by decide +kernel, by decide +kernel, by decide +kernel, by decide +kernel, by decide +kernel⟩
theorem e_refuseUnless {g : Gp} {b : Int32} {h : AH} {Q : PQ} (h1 : ¬ b = 0 → Q (.inl none) h) (h2 : b = 0 → ∀ n, zN h ≤ n → Q (.inr 2) (bump h n)) : Ev g mX9_refuseUnless [vI b] h Q := by
  refine nX9_refuseUnless ?_
  refine rX9_refuseUnless_0 ?_
  simp only [bX9_refuseUnless_0, run, Nat.reduceAdd, lg, st1, st2, lkill, lset, fvv, sfv, kind3, cat1, retI, retA, List.length_cons, List.length_nil, true_and, and_true, or_true, true_or, qX9_refuseUnless]
  refine ⟨fun h0 => ?_, fun h0 => ?_⟩
  · refine rX9_refuseUnless_15 ?_
    simp only [bX9_refuseUnless_15, run, Nat.reduceAdd, lg, st1, st2, lkill, lset, fvv, sfv, kind3, cat1, retI, retA, List.length_cons, List.length_nil, true_and, and_true, or_true, true_or, qX9_refuseUnless]
    exact h1 h0
  · refine x_throw (ik := 301) (is := 303) (text := "a number outside of its bounds") (ic := 305) (k := 2) rfl th_refuseUnless (fun s ho => ?_) (by decide) (by decide) (by decide) (by decide) (by decide +kernel) (by decide +kernel) (by decide +kernel) (by decide +kernel) (by decide +kernel) (h2 (by simpa using h0))
    obtain ⟨_, _, _, _, _, _, _, _, _, h9, h10, h11, -⟩ := ho
    exact h10
theorem nX9_requireState {g : Gp} {h : AH} {Q : PQ} {i1 : Int32} (k : Ex g mX9_requireState 0 [vI i1] [] h (0, 0) Q) : Ev g mX9_requireState [vI i1] h Q := Ev.of (by decide +kernel) rfl (Nat.le_of_ble_eq_true rfl) k
theorem qX9_requireState : mR mX9_requireState = none := rfl
def bX9_requireState_0 : List OP := [(.iload_n 0, 1, (0, 0, 0), vU), (.ifCond .ne 14, 3, (15, 0, 0), vU)]
theorem oX9_requireState_0 : okAt mX9_requireState bX9_requireState_0 0 = true := by decide +kernel
theorem rX9_requireState_0 {g : Gp} {Q : PQ} {L st : List AV} {h : AH} {u : Nat × Nat} (hr : run mX9_requireState Q (fun pc L st h u => Ex g mX9_requireState pc L st h u Q) bX9_requireState_0 0 L st h u) : Ex g mX9_requireState 0 L st h u Q := run_ok (M := mX9_requireState) cfX9_ok (fun _ _ _ _ _ k => k) _ _ _ _ _ _ oX9_requireState_0 hr
def bX9_requireState_15 : List OP := [(.return_, 1, (0, 0, 0), vU)]
theorem oX9_requireState_15 : okAt mX9_requireState bX9_requireState_15 15 = true := by decide +kernel
theorem rX9_requireState_15 {g : Gp} {Q : PQ} {L st : List AV} {h : AH} {u : Nat × Nat} (hr : run mX9_requireState Q (fun pc L st h u => Ex g mX9_requireState pc L st h u Q) bX9_requireState_15 15 L st h u) : Ex g mX9_requireState 15 L st h u Q := run_ok (M := mX9_requireState) cfX9_ok (fun _ _ _ _ _ k => k) _ _ _ _ _ _ oX9_requireState_15 hr
theorem th_requireState : ThOk RX9 306 310 (exN 3) := ⟨lg_mem (by decide +kernel) rfl, lg_mem (by decide +kernel) rfl, by decide +kernel, by decide +kernel, by decide +kernel, by decide +kernel, by decide +kernel⟩
theorem e_requireState {g : Gp} {b : Int32} {h : AH} {Q : PQ} (h1 : ¬ b = 0 → Q (.inl none) h) (h2 : b = 0 → ∀ n, zN h ≤ n → Q (.inr 3) (bump h n)) : Ev g mX9_requireState [vI b] h Q := by
  refine nX9_requireState ?_
  refine rX9_requireState_0 ?_
  simp only [bX9_requireState_0, run, Nat.reduceAdd, lg, st1, st2, lkill, lset, fvv, sfv, kind3, cat1, retI, retA, List.length_cons, List.length_nil, true_and, and_true, or_true, true_or, qX9_requireState]
  refine ⟨fun h0 => ?_, fun h0 => ?_⟩
  · refine rX9_requireState_15 ?_
    simp only [bX9_requireState_15, run, Nat.reduceAdd, lg, st1, st2, lkill, lset, fvv, sfv, kind3, cat1, retI, retA, List.length_cons, List.length_nil, true_and, and_true, or_true, true_or, qX9_requireState]
    exact h1 h0
  · refine x_throw (ik := 306) (is := 308) (text := "not possible as things are") (ic := 310) (k := 3) rfl th_requireState (fun s ho => ?_) (by decide) (by decide) (by decide) (by decide) (by decide +kernel) (by decide +kernel) (by decide +kernel) (by decide +kernel) (by decide +kernel) (h2 (by simpa using h0))
    obtain ⟨_, _, _, _, _, _, _, _, _, h9, h10, h11, -⟩ := ho
    exact h11
