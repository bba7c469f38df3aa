/-! ===== the operations (by program) ===== -/
theorem sL_law__206 {g : Gp} {L rest : List AV} {h : AH} {u : Nat × Nat} {Q : PQ} {a1 a2 a3 a4 : AV} (hu : u.1 + 1 ≤ 20000 ∧ u.2 + 6 ≤ 900000) (ev : Ev g mL_setSound [a1, a2, a3, a4] h (cont g mL_law_ 209 L rest (u.1 + 1, u.2 + 6) Q)) (hr : rest.length ≤ 4 := by exact Nat.le_of_ble_eq_true rfl) : Ex g mL_law_ 206 L (a4 :: a3 :: a2 :: a1 :: rest) h u Q := Ex.callSW (av := [a1, a2, a3, a4]) rfl mL_setSound_ok rfl (by decide) lkL_116 smL_setSound (by decide) hu.1 hu.2 hr (by decide +kernel) ev (fun _ _ k => k) (fun _ _ z => z)
theorem sL_law__224 {g : Gp} {L rest : List AV} {h : AH} {u : Nat × Nat} {Q : PQ} {x : Nat} {a1 a2 : AV} (hu : u.1 + 0 ≤ 20000 ∧ u.2 + 0 ≤ 900000) (hx : zK h x = (1, 10)) (ev : Ev g mX10_setSound (vR x :: [a1, a2]) h (cont g mL_law_ 227 L rest (u.1 + 0, u.2 + 0) Q)) (hr : rest.length ≤ 4 := by exact Nat.le_of_ble_eq_true rfl) : Ex g mL_law_ 224 L (a2 :: a1 :: vR x :: rest) h u Q := Ex.callV (av := [a1, a2]) (r := (RX10, TX10, 27)) rfl mX10_setSound_ok rfl lkL_121 imX10_setSound seX10_setSound rfl hx (by decide) hu.1 hu.2 hr (by decide +kernel) ev (fun _ _ k => k) (fun _ _ z => z)
theorem sL_law__230 {g : Gp} {L rest : List AV} {h : AH} {u : Nat × Nat} {Q : PQ} {x : Nat}  (hu : u.1 + 0 ≤ 20000 ∧ u.2 + 0 ≤ 900000) (hx : zK h x = (1, 10)) (ev : Ev g mX10_thrown (vR x :: []) h (cont g mL_law_ 233 L rest (u.1 + 0, u.2 + 0) Q)) (hr : rest.length ≤ 4 := by exact Nat.le_of_ble_eq_true rfl) : Ex g mL_law_ 230 L (vR x :: rest) h u Q := Ex.callV (av := []) (r := (RX10, TX10, 27)) rfl mX10_thrown_ok rfl lkL_122 imX10_thrown seX10_thrown rfl hx (by decide) hu.1 hu.2 hr (by decide +kernel) ev (fun _ _ k => k) (fun _ _ z => z)
def bL_law__209 : List OP := [(.istore 6, 2, (6, 0, 0), vU), (.aload_n 2, 1, (2, 0, 0), vU)]
theorem oL_law__209 : okAt mL_law_ bL_law__209 209 = true := by decide +kernel
theorem rL_law__209 {g : Gp} {Q : PQ} {L st : List AV} {h : AH} {u : Nat × Nat} (hr : run mL_law_ Q (fun pc L st h u => Ex g mL_law_ pc L st h u Q) bL_law__209 209 L st h u) : Ex g mL_law_ 209 L st h u Q := run_ok (M := mL_law_) cfL_ok (fun _ _ _ _ _ k => k) _ _ _ _ _ _ oL_law__209 hr
def bL_law__227 : List OP := [(.istore 7, 2, (7, 0, 0), vU), (.aload_n 2, 1, (2, 0, 0), vU)]
theorem oL_law__227 : okAt mL_law_ bL_law__227 227 = true := by decide +kernel
theorem rL_law__227 {g : Gp} {Q : PQ} {L st : List AV} {h : AH} {u : Nat × Nat} (hr : run mL_law_ Q (fun pc L st h u => Ex g mL_law_ pc L st h u Q) bL_law__227 227 L st h u) : Ex g mL_law_ 227 L st h u Q := run_ok (M := mL_law_) cfL_ok (fun _ _ _ _ _ k => k) _ _ _ _ _ _ oL_law__227 hr
def bL_law__233 : List OP := [(.iload 6, 2, (6, 0, 0), vU), (.if_icmp .eq 5, 3, (240, 0, 0), vU), (.iconst 0, 1, (0, 0, 0), vI 0), (.ireturn, 1, (0, 0, 0), vU)]
theorem oL_law__233 : okAt mL_law_ bL_law__233 233 = true := by decide +kernel
theorem rL_law__233 {g : Gp} {Q : PQ} {L st : List AV} {h : AH} {u : Nat × Nat} (hr : run mL_law_ Q (fun pc L st h u => Ex g mL_law_ pc L st h u Q) bL_law__233 233 L st h u) : Ex g mL_law_ 233 L st h u Q := run_ok (M := mL_law_) cfL_ok (fun _ _ _ _ _ k => k) _ _ _ _ _ _ oL_law__233 hr
def bL_law__240 : List OP := [(.iload 6, 2, (6, 0, 0), vU), (.ifCond .ne 15, 3, (257, 0, 0), vU), (.aload_n 3, 1, (3, 0, 0), vU), (.iconst 0, 1, (0, 0, 0), vI 0), (.laload, 1, (0, 0, 0), vU), (.iload 7, 2, (7, 0, 0), vU), (.i2l, 1, (0, 0, 0), vU), (.lcmp, 1, (0, 0, 0), vU), (.ifCond .eq 5, 3, (257, 0, 0), vU), (.iconst 0, 1, (0, 0, 0), vI 0), (.ireturn, 1, (0, 0, 0), vU)]
theorem oL_law__240 : okAt mL_law_ bL_law__240 240 = true := by decide +kernel
theorem rL_law__240 {g : Gp} {Q : PQ} {L st : List AV} {h : AH} {u : Nat × Nat} (hr : run mL_law_ Q (fun pc L st h u => Ex g mL_law_ pc L st h u Q) bL_law__240 240 L st h u) : Ex g mL_law_ 240 L st h u Q := run_ok (M := mL_law_) cfL_ok (fun _ _ _ _ _ k => k) _ _ _ _ _ _ oL_law__240 hr
def bL_law__257 : List OP := [(.goto 2079, 3, (2336, 0, 0), vU)]
theorem oL_law__257 : okAt mL_law_ bL_law__257 257 = true := by decide +kernel
theorem rL_law__257 {g : Gp} {Q : PQ} {L st : List AV} {h : AH} {u : Nat × Nat} (hr : run mL_law_ Q (fun pc L st h u => Ex g mL_law_ pc L st h u Q) bL_law__257 257 L st h u) : Ex g mL_law_ 257 L st h u Q := run_ok (M := mL_law_) cfL_ok (fun _ _ _ _ _ k => k) _ _ _ _ _ _ oL_law__257 hr
theorem t_setSound {g : Gp} {Q : PQ} {h : AH} {u : Nat × Nat} {i : Nat} {c v : Int32} (ms : ModS h) (kd : Kd h) (e : zI h 99 0 = c) (hz : c = 0 → zL h 122 0 = v.toInt64) (hu : u.1 ≤ 20000 ∧ u.2 ≤ 900000) (K : Ex g mL_law_ 2336 (LW9 i) [] h u Q) : Ex g mL_law_ 227 [vR 1, vR 4, vR 99, vR 122, vR 123, vI (nI i), vI c, vU, vU] [vI v] h u Q := by
  refine rL_law__227 ?_
  simp only [bL_law__227, run, Nat.reduceAdd, lg, st1, st2, lkill, lset, fvv, sfv, kind3, cat1, retI, retA, List.length_cons, List.length_nil, true_and, and_true, or_true, true_or, qL_law_]
  refine sL_law__230 hu ms.1 (e_thrown ms ?_)
  simp only [cont, Option.toList, List.cons_append, List.nil_append]
  rw [e]
  refine rL_law__233 ?_
  simp only [bL_law__233, run, Nat.reduceAdd, lg, st1, st2, lkill, lset, fvv, sfv, kind3, cat1, retI, retA, List.length_cons, List.length_nil, true_and, and_true, or_true, true_or, qL_law_, not_true_eq_false, not_false_eq_true, false_implies, true_and, and_true, tti, not_true_eq_false, false_implies]
  by_cases c0 : c = 0
  · refine rL_law__240 ?_
    simp only [bL_law__240, run, Nat.reduceAdd, lg, st1, st2, lkill, lset, fvv, sfv, kind3, cat1, retI, retA, List.length_cons, List.length_nil, true_and, and_true, or_true, true_or, qL_law_, c0, kd.1, hz c0, lcmp_self, kL, kI, kD, kR, rL, rI, rD, iL, iD, iR, lI, lD, lR, show (Int32.toNatClampNeg 0) = 0 from rfl, not_true_eq_false, not_false_eq_true, false_implies, true_and, and_true, tti, not_true_eq_false, false_implies]
    refine ⟨vin01, ?_⟩
    refine rL_law__257 ?_
    simp only [bL_law__257, run, Nat.reduceAdd, lg, st1, st2, lkill, lset, fvv, sfv, kind3, cat1, retI, retA, List.length_cons, List.length_nil, true_and, and_true, or_true, true_or, qL_law_]
    exact Ex.fgt9 K
  · refine rL_law__240 ?_
    simp only [bL_law__240, run, Nat.reduceAdd, lg, st1, st2, lkill, lset, fvv, sfv, kind3, cat1, retI, retA, List.length_cons, List.length_nil, true_and, and_true, or_true, true_or, qL_law_, c0, not_true_eq_false, not_false_eq_true, false_implies, true_and, and_true, tti, not_false_eq_true, true_implies, false_implies]
    refine rL_law__257 ?_
    simp only [bL_law__257, run, Nat.reduceAdd, lg, st1, st2, lkill, lset, fvv, sfv, kind3, cat1, retI, retA, List.length_cons, List.length_nil, true_and, and_true, or_true, true_or, qL_law_]
    exact Ex.fgt9 K
theorem sL_law__268 {g : Gp} {L rest : List AV} {h : AH} {u : Nat × Nat} {Q : PQ} {a1 a2 a3 : AV} (hu : u.1 + 1 ≤ 20000 ∧ u.2 + 6 ≤ 900000) (ev : Ev g mL_word [a1, a2, a3] h (cont g mL_law_ 271 L rest (u.1 + 1, u.2 + 6) Q)) (hr : rest.length ≤ 4 := by exact Nat.le_of_ble_eq_true rfl) : Ex g mL_law_ 268 L (a3 :: a2 :: a1 :: rest) h u Q := Ex.callSW (av := [a1, a2, a3]) rfl mL_word_ok rfl (by decide) lkL_126 smL_word (by decide) hu.1 hu.2 hr (by decide +kernel) ev (fun _ _ k => k) (fun _ _ z => z)
theorem sL_law__280 {g : Gp} {L rest : List AV} {h : AH} {u : Nat × Nat} {Q : PQ} {x : Nat} {a1 : AV} (hu : u.1 + 0 ≤ 20000 ∧ u.2 + 0 ≤ 900000) (hx : zK h x = (1, 10)) (ev : Ev g mX10_word (vR x :: [a1]) h (cont g mL_law_ 283 L rest (u.1 + 0, u.2 + 0) Q)) (hr : rest.length ≤ 4 := by exact Nat.le_of_ble_eq_true rfl) : Ex g mL_law_ 280 L (a1 :: vR x :: rest) h u Q := Ex.callV (av := [a1]) (r := (RX10, TX10, 27)) rfl mX10_word_ok rfl lkL_129 imX10_word seX10_word rfl hx (by decide) hu.1 hu.2 hr (by decide +kernel) ev (fun _ _ k => k) (fun _ _ z => z)
theorem sL_law__286 {g : Gp} {L rest : List AV} {h : AH} {u : Nat × Nat} {Q : PQ} {x : Nat}  (hu : u.1 + 0 ≤ 20000 ∧ u.2 + 0 ≤ 900000) (hx : zK h x = (1, 10)) (ev : Ev g mX10_thrown (vR x :: []) h (cont g mL_law_ 289 L rest (u.1 + 0, u.2 + 0) Q)) (hr : rest.length ≤ 4 := by exact Nat.le_of_ble_eq_true rfl) : Ex g mL_law_ 286 L (vR x :: rest) h u Q := Ex.callV (av := []) (r := (RX10, TX10, 27)) rfl mX10_thrown_ok rfl lkL_122 imX10_thrown seX10_thrown rfl hx (by decide) hu.1 hu.2 hr (by decide +kernel) ev (fun _ _ k => k) (fun _ _ z => z)
def bL_law__271 : List OP := [(.istore 6, 2, (6, 0, 0), vU), (.aload_n 2, 1, (2, 0, 0), vU)]
theorem oL_law__271 : okAt mL_law_ bL_law__271 271 = true := by decide +kernel
theorem rL_law__271 {g : Gp} {Q : PQ} {L st : List AV} {h : AH} {u : Nat × Nat} (hr : run mL_law_ Q (fun pc L st h u => Ex g mL_law_ pc L st h u Q) bL_law__271 271 L st h u) : Ex g mL_law_ 271 L st h u Q := run_ok (M := mL_law_) cfL_ok (fun _ _ _ _ _ k => k) _ _ _ _ _ _ oL_law__271 hr
def bL_law__283 : List OP := [(.istore 7, 2, (7, 0, 0), vU), (.aload_n 2, 1, (2, 0, 0), vU)]
theorem oL_law__283 : okAt mL_law_ bL_law__283 283 = true := by decide +kernel
theorem rL_law__283 {g : Gp} {Q : PQ} {L st : List AV} {h : AH} {u : Nat × Nat} (hr : run mL_law_ Q (fun pc L st h u => Ex g mL_law_ pc L st h u Q) bL_law__283 283 L st h u) : Ex g mL_law_ 283 L st h u Q := run_ok (M := mL_law_) cfL_ok (fun _ _ _ _ _ k => k) _ _ _ _ _ _ oL_law__283 hr
def bL_law__289 : List OP := [(.iload 6, 2, (6, 0, 0), vU), (.if_icmp .eq 5, 3, (296, 0, 0), vU), (.iconst 0, 1, (0, 0, 0), vI 0), (.ireturn, 1, (0, 0, 0), vU)]
theorem oL_law__289 : okAt mL_law_ bL_law__289 289 = true := by decide +kernel
theorem rL_law__289 {g : Gp} {Q : PQ} {L st : List AV} {h : AH} {u : Nat × Nat} (hr : run mL_law_ Q (fun pc L st h u => Ex g mL_law_ pc L st h u Q) bL_law__289 289 L st h u) : Ex g mL_law_ 289 L st h u Q := run_ok (M := mL_law_) cfL_ok (fun _ _ _ _ _ k => k) _ _ _ _ _ _ oL_law__289 hr
def bL_law__296 : List OP := [(.iload 6, 2, (6, 0, 0), vU), (.ifCond .ne 15, 3, (313, 0, 0), vU), (.aload_n 3, 1, (3, 0, 0), vU), (.iconst 0, 1, (0, 0, 0), vI 0), (.laload, 1, (0, 0, 0), vU), (.iload 7, 2, (7, 0, 0), vU), (.i2l, 1, (0, 0, 0), vU), (.lcmp, 1, (0, 0, 0), vU), (.ifCond .eq 5, 3, (313, 0, 0), vU), (.iconst 0, 1, (0, 0, 0), vI 0), (.ireturn, 1, (0, 0, 0), vU)]
theorem oL_law__296 : okAt mL_law_ bL_law__296 296 = true := by decide +kernel
theorem rL_law__296 {g : Gp} {Q : PQ} {L st : List AV} {h : AH} {u : Nat × Nat} (hr : run mL_law_ Q (fun pc L st h u => Ex g mL_law_ pc L st h u Q) bL_law__296 296 L st h u) : Ex g mL_law_ 296 L st h u Q := run_ok (M := mL_law_) cfL_ok (fun _ _ _ _ _ k => k) _ _ _ _ _ _ oL_law__296 hr
def bL_law__313 : List OP := [(.goto 2023, 3, (2336, 0, 0), vU)]
theorem oL_law__313 : okAt mL_law_ bL_law__313 313 = true := by decide +kernel
theorem rL_law__313 {g : Gp} {Q : PQ} {L st : List AV} {h : AH} {u : Nat × Nat} (hr : run mL_law_ Q (fun pc L st h u => Ex g mL_law_ pc L st h u Q) bL_law__313 313 L st h u) : Ex g mL_law_ 313 L st h u Q := run_ok (M := mL_law_) cfL_ok (fun _ _ _ _ _ k => k) _ _ _ _ _ _ oL_law__313 hr
theorem t_word {g : Gp} {Q : PQ} {h : AH} {u : Nat × Nat} {i : Nat} {c v : Int32} (ms : ModS h) (kd : Kd h) (e : zI h 99 0 = c) (hz : c = 0 → zL h 122 0 = v.toInt64) (hu : u.1 ≤ 20000 ∧ u.2 ≤ 900000) (K : Ex g mL_law_ 2336 (LW9 i) [] h u Q) : Ex g mL_law_ 283 [vR 1, vR 4, vR 99, vR 122, vR 123, vI (nI i), vI c, vU, vU] [vI v] h u Q := by
  refine rL_law__283 ?_
  simp only [bL_law__283, run, Nat.reduceAdd, lg, st1, st2, lkill, lset, fvv, sfv, kind3, cat1, retI, retA, List.length_cons, List.length_nil, true_and, and_true, or_true, true_or, qL_law_]
  refine sL_law__286 hu ms.1 (e_thrown ms ?_)
  simp only [cont, Option.toList, List.cons_append, List.nil_append]
  rw [e]
  refine rL_law__289 ?_
  simp only [bL_law__289, run, Nat.reduceAdd, lg, st1, st2, lkill, lset, fvv, sfv, kind3, cat1, retI, retA, List.length_cons, List.length_nil, true_and, and_true, or_true, true_or, qL_law_, not_true_eq_false, not_false_eq_true, false_implies, true_and, and_true, tti, not_true_eq_false, false_implies]
  by_cases c0 : c = 0
  · refine rL_law__296 ?_
    simp only [bL_law__296, run, Nat.reduceAdd, lg, st1, st2, lkill, lset, fvv, sfv, kind3, cat1, retI, retA, List.length_cons, List.length_nil, true_and, and_true, or_true, true_or, qL_law_, c0, kd.1, hz c0, lcmp_self, kL, kI, kD, kR, rL, rI, rD, iL, iD, iR, lI, lD, lR, show (Int32.toNatClampNeg 0) = 0 from rfl, not_true_eq_false, not_false_eq_true, false_implies, true_and, and_true, tti, not_true_eq_false, false_implies]
    refine ⟨vin01, ?_⟩
    refine rL_law__313 ?_
    simp only [bL_law__313, run, Nat.reduceAdd, lg, st1, st2, lkill, lset, fvv, sfv, kind3, cat1, retI, retA, List.length_cons, List.length_nil, true_and, and_true, or_true, true_or, qL_law_]
    exact Ex.fgt9 K
  · refine rL_law__296 ?_
    simp only [bL_law__296, run, Nat.reduceAdd, lg, st1, st2, lkill, lset, fvv, sfv, kind3, cat1, retI, retA, List.length_cons, List.length_nil, true_and, and_true, or_true, true_or, qL_law_, c0, not_true_eq_false, not_false_eq_true, false_implies, true_and, and_true, tti, not_false_eq_true, true_implies, false_implies]
    refine rL_law__313 ?_
    simp only [bL_law__313, run, Nat.reduceAdd, lg, st1, st2, lkill, lset, fvv, sfv, kind3, cat1, retI, retA, List.length_cons, List.length_nil, true_and, and_true, or_true, true_or, qL_law_]
    exact Ex.fgt9 K
theorem sL_law__324 {g : Gp} {L rest : List AV} {h : AH} {u : Nat × Nat} {Q : PQ} {a1 a2 a3 : AV} (hu : u.1 + 2 ≤ 20000 ∧ u.2 + 12 ≤ 900000) (ev : Ev g mL_spell [a1, a2, a3] h (cont g mL_law_ 327 L rest (u.1 + 2, u.2 + 12) Q)) (hr : rest.length ≤ 4 := by exact Nat.le_of_ble_eq_true rfl) : Ex g mL_law_ 324 L (a3 :: a2 :: a1 :: rest) h u Q := Ex.callSW (av := [a1, a2, a3]) rfl mL_spell_ok rfl (by decide) lkL_130 smL_spell (by decide) hu.1 hu.2 hr (by decide +kernel) ev (fun _ _ k => k) (fun _ _ z => z)
theorem sL_law__336 {g : Gp} {L rest : List AV} {h : AH} {u : Nat × Nat} {Q : PQ} {x : Nat} {a1 : AV} (hu : u.1 + 0 ≤ 20000 ∧ u.2 + 0 ≤ 900000) (hx : zK h x = (1, 10)) (ev : Ev g mX10_spell (vR x :: [a1]) h (cont g mL_law_ 339 L rest (u.1 + 0, u.2 + 0) Q)) (hr : rest.length ≤ 4 := by exact Nat.le_of_ble_eq_true rfl) : Ex g mL_law_ 336 L (a1 :: vR x :: rest) h u Q := Ex.callV (av := [a1]) (r := (RX10, TX10, 27)) rfl mX10_spell_ok rfl lkL_132 imX10_spell seX10_spell rfl hx (by decide) hu.1 hu.2 hr (by decide +kernel) ev (fun _ _ k => k) (fun _ _ z => z)
theorem sL_law__342 {g : Gp} {L rest : List AV} {h : AH} {u : Nat × Nat} {Q : PQ} {x : Nat}  (hu : u.1 + 0 ≤ 20000 ∧ u.2 + 0 ≤ 900000) (hx : zK h x = (1, 10)) (ev : Ev g mX10_thrown (vR x :: []) h (cont g mL_law_ 345 L rest (u.1 + 0, u.2 + 0) Q)) (hr : rest.length ≤ 4 := by exact Nat.le_of_ble_eq_true rfl) : Ex g mL_law_ 342 L (vR x :: rest) h u Q := Ex.callV (av := []) (r := (RX10, TX10, 27)) rfl mX10_thrown_ok rfl lkL_122 imX10_thrown seX10_thrown rfl hx (by decide) hu.1 hu.2 hr (by decide +kernel) ev (fun _ _ k => k) (fun _ _ z => z)
def bL_law__327 : List OP := [(.istore 6, 2, (6, 0, 0), vU), (.aload_n 2, 1, (2, 0, 0), vU)]
theorem oL_law__327 : okAt mL_law_ bL_law__327 327 = true := by decide +kernel
theorem rL_law__327 {g : Gp} {Q : PQ} {L st : List AV} {h : AH} {u : Nat × Nat} (hr : run mL_law_ Q (fun pc L st h u => Ex g mL_law_ pc L st h u Q) bL_law__327 327 L st h u) : Ex g mL_law_ 327 L st h u Q := run_ok (M := mL_law_) cfL_ok (fun _ _ _ _ _ k => k) _ _ _ _ _ _ oL_law__327 hr
def bL_law__339 : List OP := [(.istore 7, 2, (7, 0, 0), vU), (.aload_n 2, 1, (2, 0, 0), vU)]
theorem oL_law__339 : okAt mL_law_ bL_law__339 339 = true := by decide +kernel
theorem rL_law__339 {g : Gp} {Q : PQ} {L st : List AV} {h : AH} {u : Nat × Nat} (hr : run mL_law_ Q (fun pc L st h u => Ex g mL_law_ pc L st h u Q) bL_law__339 339 L st h u) : Ex g mL_law_ 339 L st h u Q := run_ok (M := mL_law_) cfL_ok (fun _ _ _ _ _ k => k) _ _ _ _ _ _ oL_law__339 hr
def bL_law__345 : List OP := [(.iload 6, 2, (6, 0, 0), vU), (.if_icmp .eq 5, 3, (352, 0, 0), vU), (.iconst 0, 1, (0, 0, 0), vI 0), (.ireturn, 1, (0, 0, 0), vU)]
theorem oL_law__345 : okAt mL_law_ bL_law__345 345 = true := by decide +kernel
theorem rL_law__345 {g : Gp} {Q : PQ} {L st : List AV} {h : AH} {u : Nat × Nat} (hr : run mL_law_ Q (fun pc L st h u => Ex g mL_law_ pc L st h u Q) bL_law__345 345 L st h u) : Ex g mL_law_ 345 L st h u Q := run_ok (M := mL_law_) cfL_ok (fun _ _ _ _ _ k => k) _ _ _ _ _ _ oL_law__345 hr
def bL_law__352 : List OP := [(.iload 6, 2, (6, 0, 0), vU), (.ifCond .ne 15, 3, (369, 0, 0), vU), (.aload_n 3, 1, (3, 0, 0), vU), (.iconst 0, 1, (0, 0, 0), vI 0), (.laload, 1, (0, 0, 0), vU), (.iload 7, 2, (7, 0, 0), vU), (.i2l, 1, (0, 0, 0), vU), (.lcmp, 1, (0, 0, 0), vU), (.ifCond .eq 5, 3, (369, 0, 0), vU), (.iconst 0, 1, (0, 0, 0), vI 0), (.ireturn, 1, (0, 0, 0), vU)]
theorem oL_law__352 : okAt mL_law_ bL_law__352 352 = true := by decide +kernel
theorem rL_law__352 {g : Gp} {Q : PQ} {L st : List AV} {h : AH} {u : Nat × Nat} (hr : run mL_law_ Q (fun pc L st h u => Ex g mL_law_ pc L st h u Q) bL_law__352 352 L st h u) : Ex g mL_law_ 352 L st h u Q := run_ok (M := mL_law_) cfL_ok (fun _ _ _ _ _ k => k) _ _ _ _ _ _ oL_law__352 hr
def bL_law__369 : List OP := [(.goto 1967, 3, (2336, 0, 0), vU)]
theorem oL_law__369 : okAt mL_law_ bL_law__369 369 = true := by decide +kernel
theorem rL_law__369 {g : Gp} {Q : PQ} {L st : List AV} {h : AH} {u : Nat × Nat} (hr : run mL_law_ Q (fun pc L st h u => Ex g mL_law_ pc L st h u Q) bL_law__369 369 L st h u) : Ex g mL_law_ 369 L st h u Q := run_ok (M := mL_law_) cfL_ok (fun _ _ _ _ _ k => k) _ _ _ _ _ _ oL_law__369 hr
theorem t_spell {g : Gp} {Q : PQ} {h : AH} {u : Nat × Nat} {i : Nat} {c v : Int32} (ms : ModS h) (kd : Kd h) (e : zI h 99 0 = c) (hz : c = 0 → zL h 122 0 = v.toInt64) (hu : u.1 ≤ 20000 ∧ u.2 ≤ 900000) (K : Ex g mL_law_ 2336 (LW9 i) [] h u Q) : Ex g mL_law_ 339 [vR 1, vR 4, vR 99, vR 122, vR 123, vI (nI i), vI c, vU, vU] [vI v] h u Q := by
  refine rL_law__339 ?_
  simp only [bL_law__339, run, Nat.reduceAdd, lg, st1, st2, lkill, lset, fvv, sfv, kind3, cat1, retI, retA, List.length_cons, List.length_nil, true_and, and_true, or_true, true_or, qL_law_]
  refine sL_law__342 hu ms.1 (e_thrown ms ?_)
  simp only [cont, Option.toList, List.cons_append, List.nil_append]
  rw [e]
  refine rL_law__345 ?_
  simp only [bL_law__345, run, Nat.reduceAdd, lg, st1, st2, lkill, lset, fvv, sfv, kind3, cat1, retI, retA, List.length_cons, List.length_nil, true_and, and_true, or_true, true_or, qL_law_, not_true_eq_false, not_false_eq_true, false_implies, true_and, and_true, tti, not_true_eq_false, false_implies]
  by_cases c0 : c = 0
  · refine rL_law__352 ?_
    simp only [bL_law__352, run, Nat.reduceAdd, lg, st1, st2, lkill, lset, fvv, sfv, kind3, cat1, retI, retA, List.length_cons, List.length_nil, true_and, and_true, or_true, true_or, qL_law_, c0, kd.1, hz c0, lcmp_self, kL, kI, kD, kR, rL, rI, rD, iL, iD, iR, lI, lD, lR, show (Int32.toNatClampNeg 0) = 0 from rfl, not_true_eq_false, not_false_eq_true, false_implies, true_and, and_true, tti, not_true_eq_false, false_implies]
    refine ⟨vin01, ?_⟩
    refine rL_law__369 ?_
    simp only [bL_law__369, run, Nat.reduceAdd, lg, st1, st2, lkill, lset, fvv, sfv, kind3, cat1, retI, retA, List.length_cons, List.length_nil, true_and, and_true, or_true, true_or, qL_law_]
    exact Ex.fgt9 K
  · refine rL_law__352 ?_
    simp only [bL_law__352, run, Nat.reduceAdd, lg, st1, st2, lkill, lset, fvv, sfv, kind3, cat1, retI, retA, List.length_cons, List.length_nil, true_and, and_true, or_true, true_or, qL_law_, c0, not_true_eq_false, not_false_eq_true, false_implies, true_and, and_true, tti, not_false_eq_true, true_implies, false_implies]
    refine rL_law__369 ?_
    simp only [bL_law__369, run, Nat.reduceAdd, lg, st1, st2, lkill, lset, fvv, sfv, kind3, cat1, retI, retA, List.length_cons, List.length_nil, true_and, and_true, or_true, true_or, qL_law_]
    exact Ex.fgt9 K
theorem sL_law__380 {g : Gp} {L rest : List AV} {h : AH} {u : Nat × Nat} {Q : PQ} {a1 a2 a3 : AV} (hu : u.1 + 5 ≤ 20000 ∧ u.2 + 32 ≤ 900000) (ev : Ev g mL_language [a1, a2, a3] h (cont g mL_law_ 383 L rest (u.1 + 5, u.2 + 32) Q)) (hr : rest.length ≤ 4 := by exact Nat.le_of_ble_eq_true rfl) : Ex g mL_law_ 380 L (a3 :: a2 :: a1 :: rest) h u Q := Ex.callSW (av := [a1, a2, a3]) rfl mL_language_ok rfl (by decide) lkL_133 smL_language (by decide) hu.1 hu.2 hr (by decide +kernel) ev (fun _ _ k => k) (fun _ _ z => z)
theorem sL_law__392 {g : Gp} {L rest : List AV} {h : AH} {u : Nat × Nat} {Q : PQ} {x : Nat} {a1 : AV} (hu : u.1 + 0 ≤ 20000 ∧ u.2 + 0 ≤ 900000) (hx : zK h x = (1, 10)) (ev : Ev g mX10_language (vR x :: [a1]) h (cont g mL_law_ 395 L rest (u.1 + 0, u.2 + 0) Q)) (hr : rest.length ≤ 4 := by exact Nat.le_of_ble_eq_true rfl) : Ex g mL_law_ 392 L (a1 :: vR x :: rest) h u Q := Ex.callV (av := [a1]) (r := (RX10, TX10, 27)) rfl mX10_language_ok rfl lkL_135 imX10_language seX10_language rfl hx (by decide) hu.1 hu.2 hr (by decide +kernel) ev (fun _ _ k => k) (fun _ _ z => z)
theorem sL_law__398 {g : Gp} {L rest : List AV} {h : AH} {u : Nat × Nat} {Q : PQ} {x : Nat}  (hu : u.1 + 0 ≤ 20000 ∧ u.2 + 0 ≤ 900000) (hx : zK h x = (1, 10)) (ev : Ev g mX10_thrown (vR x :: []) h (cont g mL_law_ 401 L rest (u.1 + 0, u.2 + 0) Q)) (hr : rest.length ≤ 4 := by exact Nat.le_of_ble_eq_true rfl) : Ex g mL_law_ 398 L (vR x :: rest) h u Q := Ex.callV (av := []) (r := (RX10, TX10, 27)) rfl mX10_thrown_ok rfl lkL_122 imX10_thrown seX10_thrown rfl hx (by decide) hu.1 hu.2 hr (by decide +kernel) ev (fun _ _ k => k) (fun _ _ z => z)
def bL_law__383 : List OP := [(.istore 6, 2, (6, 0, 0), vU), (.aload_n 2, 1, (2, 0, 0), vU)]
theorem oL_law__383 : okAt mL_law_ bL_law__383 383 = true := by decide +kernel
theorem rL_law__383 {g : Gp} {Q : PQ} {L st : List AV} {h : AH} {u : Nat × Nat} (hr : run mL_law_ Q (fun pc L st h u => Ex g mL_law_ pc L st h u Q) bL_law__383 383 L st h u) : Ex g mL_law_ 383 L st h u Q := run_ok (M := mL_law_) cfL_ok (fun _ _ _ _ _ k => k) _ _ _ _ _ _ oL_law__383 hr
def bL_law__395 : List OP := [(.istore 7, 2, (7, 0, 0), vU), (.aload_n 2, 1, (2, 0, 0), vU)]
theorem oL_law__395 : okAt mL_law_ bL_law__395 395 = true := by decide +kernel
theorem rL_law__395 {g : Gp} {Q : PQ} {L st : List AV} {h : AH} {u : Nat × Nat} (hr : run mL_law_ Q (fun pc L st h u => Ex g mL_law_ pc L st h u Q) bL_law__395 395 L st h u) : Ex g mL_law_ 395 L st h u Q := run_ok (M := mL_law_) cfL_ok (fun _ _ _ _ _ k => k) _ _ _ _ _ _ oL_law__395 hr
def bL_law__401 : List OP := [(.iload 6, 2, (6, 0, 0), vU), (.if_icmp .eq 5, 3, (408, 0, 0), vU), (.iconst 0, 1, (0, 0, 0), vI 0), (.ireturn, 1, (0, 0, 0), vU)]
theorem oL_law__401 : okAt mL_law_ bL_law__401 401 = true := by decide +kernel
theorem rL_law__401 {g : Gp} {Q : PQ} {L st : List AV} {h : AH} {u : Nat × Nat} (hr : run mL_law_ Q (fun pc L st h u => Ex g mL_law_ pc L st h u Q) bL_law__401 401 L st h u) : Ex g mL_law_ 401 L st h u Q := run_ok (M := mL_law_) cfL_ok (fun _ _ _ _ _ k => k) _ _ _ _ _ _ oL_law__401 hr
def bL_law__408 : List OP := [(.iload 6, 2, (6, 0, 0), vU), (.ifCond .ne 15, 3, (425, 0, 0), vU), (.aload_n 3, 1, (3, 0, 0), vU), (.iconst 0, 1, (0, 0, 0), vI 0), (.laload, 1, (0, 0, 0), vU), (.iload 7, 2, (7, 0, 0), vU), (.i2l, 1, (0, 0, 0), vU), (.lcmp, 1, (0, 0, 0), vU), (.ifCond .eq 5, 3, (425, 0, 0), vU), (.iconst 0, 1, (0, 0, 0), vI 0), (.ireturn, 1, (0, 0, 0), vU)]
theorem oL_law__408 : okAt mL_law_ bL_law__408 408 = true := by decide +kernel
theorem rL_law__408 {g : Gp} {Q : PQ} {L st : List AV} {h : AH} {u : Nat × Nat} (hr : run mL_law_ Q (fun pc L st h u => Ex g mL_law_ pc L st h u Q) bL_law__408 408 L st h u) : Ex g mL_law_ 408 L st h u Q := run_ok (M := mL_law_) cfL_ok (fun _ _ _ _ _ k => k) _ _ _ _ _ _ oL_law__408 hr
def bL_law__425 : List OP := [(.goto 1911, 3, (2336, 0, 0), vU)]
theorem oL_law__425 : okAt mL_law_ bL_law__425 425 = true := by decide +kernel
theorem rL_law__425 {g : Gp} {Q : PQ} {L st : List AV} {h : AH} {u : Nat × Nat} (hr : run mL_law_ Q (fun pc L st h u => Ex g mL_law_ pc L st h u Q) bL_law__425 425 L st h u) : Ex g mL_law_ 425 L st h u Q := run_ok (M := mL_law_) cfL_ok (fun _ _ _ _ _ k => k) _ _ _ _ _ _ oL_law__425 hr
theorem t_language {g : Gp} {Q : PQ} {h : AH} {u : Nat × Nat} {i : Nat} {c v : Int32} (ms : ModS h) (kd : Kd h) (e : zI h 99 0 = c) (hz : c = 0 → zL h 122 0 = v.toInt64) (hu : u.1 ≤ 20000 ∧ u.2 ≤ 900000) (K : Ex g mL_law_ 2336 (LW9 i) [] h u Q) : Ex g mL_law_ 395 [vR 1, vR 4, vR 99, vR 122, vR 123, vI (nI i), vI c, vU, vU] [vI v] h u Q := by
  refine rL_law__395 ?_
  simp only [bL_law__395, run, Nat.reduceAdd, lg, st1, st2, lkill, lset, fvv, sfv, kind3, cat1, retI, retA, List.length_cons, List.length_nil, true_and, and_true, or_true, true_or, qL_law_]
  refine sL_law__398 hu ms.1 (e_thrown ms ?_)
  simp only [cont, Option.toList, List.cons_append, List.nil_append]
  rw [e]
  refine rL_law__401 ?_
  simp only [bL_law__401, run, Nat.reduceAdd, lg, st1, st2, lkill, lset, fvv, sfv, kind3, cat1, retI, retA, List.length_cons, List.length_nil, true_and, and_true, or_true, true_or, qL_law_, not_true_eq_false, not_false_eq_true, false_implies, true_and, and_true, tti, not_true_eq_false, false_implies]
  by_cases c0 : c = 0
  · refine rL_law__408 ?_
    simp only [bL_law__408, run, Nat.reduceAdd, lg, st1, st2, lkill, lset, fvv, sfv, kind3, cat1, retI, retA, List.length_cons, List.length_nil, true_and, and_true, or_true, true_or, qL_law_, c0, kd.1, hz c0, lcmp_self, kL, kI, kD, kR, rL, rI, rD, iL, iD, iR, lI, lD, lR, show (Int32.toNatClampNeg 0) = 0 from rfl, not_true_eq_false, not_false_eq_true, false_implies, true_and, and_true, tti, not_true_eq_false, false_implies]
    refine ⟨vin01, ?_⟩
    refine rL_law__425 ?_
    simp only [bL_law__425, run, Nat.reduceAdd, lg, st1, st2, lkill, lset, fvv, sfv, kind3, cat1, retI, retA, List.length_cons, List.length_nil, true_and, and_true, or_true, true_or, qL_law_]
    exact Ex.fgt9 K
  · refine rL_law__408 ?_
    simp only [bL_law__408, run, Nat.reduceAdd, lg, st1, st2, lkill, lset, fvv, sfv, kind3, cat1, retI, retA, List.length_cons, List.length_nil, true_and, and_true, or_true, true_or, qL_law_, c0, not_true_eq_false, not_false_eq_true, false_implies, true_and, and_true, tti, not_false_eq_true, true_implies, false_implies]
    refine rL_law__425 ?_
    simp only [bL_law__425, run, Nat.reduceAdd, lg, st1, st2, lkill, lset, fvv, sfv, kind3, cat1, retI, retA, List.length_cons, List.length_nil, true_and, and_true, or_true, true_or, qL_law_]
    exact Ex.fgt9 K
theorem sL_law__460 {g : Gp} {L rest : List AV} {h : AH} {u : Nat × Nat} {Q : PQ} {a1 a2 a3 a4 a5 a6 a7 : AV} (hu : u.1 + 6 ≤ 20000 ∧ u.2 + 43 ≤ 900000) (ev : Ev g mL_law [a1, a2, a3, a4, a5, a6, a7] h (cont g mL_law_ 463 L rest (u.1 + 6, u.2 + 43) Q)) (hr : rest.length ≤ 4 := by exact Nat.le_of_ble_eq_true rfl) : Ex g mL_law_ 460 L (a7 :: a6 :: a5 :: a4 :: a3 :: a2 :: a1 :: rest) h u Q := Ex.callSW (av := [a1, a2, a3, a4, a5, a6, a7]) rfl mL_law_ok rfl (by decide) lkL_136 smL_law (by decide) hu.1 hu.2 hr (by decide +kernel) ev (fun _ _ k => k) (fun _ _ z => z)
theorem sL_law__496 {g : Gp} {L rest : List AV} {h : AH} {u : Nat × Nat} {Q : PQ} {x : Nat} {a1 a2 a3 a4 a5 : AV} (hu : u.1 + 0 ≤ 20000 ∧ u.2 + 0 ≤ 900000) (hx : zK h x = (1, 10)) (ev : Ev g mX10_law (vR x :: [a1, a2, a3, a4, a5]) h (cont g mL_law_ 499 L rest (u.1 + 0, u.2 + 0) Q)) (hr : rest.length ≤ 4 := by exact Nat.le_of_ble_eq_true rfl) : Ex g mL_law_ 496 L (a5 :: a4 :: a3 :: a2 :: a1 :: vR x :: rest) h u Q := Ex.callV (av := [a1, a2, a3, a4, a5]) (r := (RX10, TX10, 27)) rfl mX10_law_ok rfl lkL_139 imX10_law seX10_law rfl hx (by decide) hu.1 hu.2 hr (by decide +kernel) ev (fun _ _ k => k) (fun _ _ z => z)
theorem sL_law__502 {g : Gp} {L rest : List AV} {h : AH} {u : Nat × Nat} {Q : PQ} {x : Nat}  (hu : u.1 + 0 ≤ 20000 ∧ u.2 + 0 ≤ 900000) (hx : zK h x = (1, 10)) (ev : Ev g mX10_thrown (vR x :: []) h (cont g mL_law_ 505 L rest (u.1 + 0, u.2 + 0) Q)) (hr : rest.length ≤ 4 := by exact Nat.le_of_ble_eq_true rfl) : Ex g mL_law_ 502 L (vR x :: rest) h u Q := Ex.callV (av := []) (r := (RX10, TX10, 27)) rfl mX10_thrown_ok rfl lkL_122 imX10_thrown seX10_thrown rfl hx (by decide) hu.1 hu.2 hr (by decide +kernel) ev (fun _ _ k => k) (fun _ _ z => z)
def bL_law__463 : List OP := [(.istore 6, 2, (6, 0, 0), vU), (.aload_n 2, 1, (2, 0, 0), vU)]
theorem oL_law__463 : okAt mL_law_ bL_law__463 463 = true := by decide +kernel
theorem rL_law__463 {g : Gp} {Q : PQ} {L st : List AV} {h : AH} {u : Nat × Nat} (hr : run mL_law_ Q (fun pc L st h u => Ex g mL_law_ pc L st h u Q) bL_law__463 463 L st h u) : Ex g mL_law_ 463 L st h u Q := run_ok (M := mL_law_) cfL_ok (fun _ _ _ _ _ k => k) _ _ _ _ _ _ oL_law__463 hr
def bL_law__499 : List OP := [(.istore 7, 2, (7, 0, 0), vU), (.aload_n 2, 1, (2, 0, 0), vU)]
theorem oL_law__499 : okAt mL_law_ bL_law__499 499 = true := by decide +kernel
theorem rL_law__499 {g : Gp} {Q : PQ} {L st : List AV} {h : AH} {u : Nat × Nat} (hr : run mL_law_ Q (fun pc L st h u => Ex g mL_law_ pc L st h u Q) bL_law__499 499 L st h u) : Ex g mL_law_ 499 L st h u Q := run_ok (M := mL_law_) cfL_ok (fun _ _ _ _ _ k => k) _ _ _ _ _ _ oL_law__499 hr
def bL_law__505 : List OP := [(.iload 6, 2, (6, 0, 0), vU), (.if_icmp .eq 5, 3, (512, 0, 0), vU), (.iconst 0, 1, (0, 0, 0), vI 0), (.ireturn, 1, (0, 0, 0), vU)]
theorem oL_law__505 : okAt mL_law_ bL_law__505 505 = true := by decide +kernel
theorem rL_law__505 {g : Gp} {Q : PQ} {L st : List AV} {h : AH} {u : Nat × Nat} (hr : run mL_law_ Q (fun pc L st h u => Ex g mL_law_ pc L st h u Q) bL_law__505 505 L st h u) : Ex g mL_law_ 505 L st h u Q := run_ok (M := mL_law_) cfL_ok (fun _ _ _ _ _ k => k) _ _ _ _ _ _ oL_law__505 hr
def bL_law__512 : List OP := [(.iload 6, 2, (6, 0, 0), vU), (.ifCond .ne 15, 3, (529, 0, 0), vU), (.aload_n 3, 1, (3, 0, 0), vU), (.iconst 0, 1, (0, 0, 0), vI 0), (.laload, 1, (0, 0, 0), vU), (.iload 7, 2, (7, 0, 0), vU), (.i2l, 1, (0, 0, 0), vU), (.lcmp, 1, (0, 0, 0), vU), (.ifCond .eq 5, 3, (529, 0, 0), vU), (.iconst 0, 1, (0, 0, 0), vI 0), (.ireturn, 1, (0, 0, 0), vU)]
theorem oL_law__512 : okAt mL_law_ bL_law__512 512 = true := by decide +kernel
theorem rL_law__512 {g : Gp} {Q : PQ} {L st : List AV} {h : AH} {u : Nat × Nat} (hr : run mL_law_ Q (fun pc L st h u => Ex g mL_law_ pc L st h u Q) bL_law__512 512 L st h u) : Ex g mL_law_ 512 L st h u Q := run_ok (M := mL_law_) cfL_ok (fun _ _ _ _ _ k => k) _ _ _ _ _ _ oL_law__512 hr
def bL_law__529 : List OP := [(.goto 1807, 3, (2336, 0, 0), vU)]
theorem oL_law__529 : okAt mL_law_ bL_law__529 529 = true := by decide +kernel
theorem rL_law__529 {g : Gp} {Q : PQ} {L st : List AV} {h : AH} {u : Nat × Nat} (hr : run mL_law_ Q (fun pc L st h u => Ex g mL_law_ pc L st h u Q) bL_law__529 529 L st h u) : Ex g mL_law_ 529 L st h u Q := run_ok (M := mL_law_) cfL_ok (fun _ _ _ _ _ k => k) _ _ _ _ _ _ oL_law__529 hr
theorem t_law {g : Gp} {Q : PQ} {h : AH} {u : Nat × Nat} {i : Nat} {c v : Int32} (ms : ModS h) (kd : Kd h) (e : zI h 99 0 = c) (hz : c = 0 → zL h 122 0 = v.toInt64) (hu : u.1 ≤ 20000 ∧ u.2 ≤ 900000) (K : Ex g mL_law_ 2336 (LW9 i) [] h u Q) : Ex g mL_law_ 499 [vR 1, vR 4, vR 99, vR 122, vR 123, vI (nI i), vI c, vU, vU] [vI v] h u Q := by
  refine rL_law__499 ?_
  simp only [bL_law__499, run, Nat.reduceAdd, lg, st1, st2, lkill, lset, fvv, sfv, kind3, cat1, retI, retA, List.length_cons, List.length_nil, true_and, and_true, or_true, true_or, qL_law_]
  refine sL_law__502 hu ms.1 (e_thrown ms ?_)
  simp only [cont, Option.toList, List.cons_append, List.nil_append]
  rw [e]
  refine rL_law__505 ?_
  simp only [bL_law__505, run, Nat.reduceAdd, lg, st1, st2, lkill, lset, fvv, sfv, kind3, cat1, retI, retA, List.length_cons, List.length_nil, true_and, and_true, or_true, true_or, qL_law_, not_true_eq_false, not_false_eq_true, false_implies, true_and, and_true, tti, not_true_eq_false, false_implies]
  by_cases c0 : c = 0
  · refine rL_law__512 ?_
    simp only [bL_law__512, run, Nat.reduceAdd, lg, st1, st2, lkill, lset, fvv, sfv, kind3, cat1, retI, retA, List.length_cons, List.length_nil, true_and, and_true, or_true, true_or, qL_law_, c0, kd.1, hz c0, lcmp_self, kL, kI, kD, kR, rL, rI, rD, iL, iD, iR, lI, lD, lR, show (Int32.toNatClampNeg 0) = 0 from rfl, not_true_eq_false, not_false_eq_true, false_implies, true_and, and_true, tti, not_true_eq_false, false_implies]
    refine ⟨vin01, ?_⟩
    refine rL_law__529 ?_
    simp only [bL_law__529, run, Nat.reduceAdd, lg, st1, st2, lkill, lset, fvv, sfv, kind3, cat1, retI, retA, List.length_cons, List.length_nil, true_and, and_true, or_true, true_or, qL_law_]
    exact Ex.fgt9 K
  · refine rL_law__512 ?_
    simp only [bL_law__512, run, Nat.reduceAdd, lg, st1, st2, lkill, lset, fvv, sfv, kind3, cat1, retI, retA, List.length_cons, List.length_nil, true_and, and_true, or_true, true_or, qL_law_, c0, not_true_eq_false, not_false_eq_true, false_implies, true_and, and_true, tti, not_false_eq_true, true_implies, false_implies]
    refine rL_law__529 ?_
    simp only [bL_law__529, run, Nat.reduceAdd, lg, st1, st2, lkill, lset, fvv, sfv, kind3, cat1, retI, retA, List.length_cons, List.length_nil, true_and, and_true, or_true, true_or, qL_law_]
    exact Ex.fgt9 K
theorem sL_law__540 {g : Gp} {L rest : List AV} {h : AH} {u : Nat × Nat} {Q : PQ} {a1 a2 a3 : AV} (hu : u.1 + 2 ≤ 20000 ∧ u.2 + 12 ≤ 900000) (ev : Ev g mL_unlaw [a1, a2, a3] h (cont g mL_law_ 543 L rest (u.1 + 2, u.2 + 12) Q)) (hr : rest.length ≤ 4 := by exact Nat.le_of_ble_eq_true rfl) : Ex g mL_law_ 540 L (a3 :: a2 :: a1 :: rest) h u Q := Ex.callSW (av := [a1, a2, a3]) rfl mL_unlaw_ok rfl (by decide) lkL_140 smL_unlaw (by decide) hu.1 hu.2 hr (by decide +kernel) ev (fun _ _ k => k) (fun _ _ z => z)
theorem sL_law__552 {g : Gp} {L rest : List AV} {h : AH} {u : Nat × Nat} {Q : PQ} {x : Nat} {a1 : AV} (hu : u.1 + 0 ≤ 20000 ∧ u.2 + 0 ≤ 900000) (hx : zK h x = (1, 10)) (ev : Ev g mX10_unlaw (vR x :: [a1]) h (cont g mL_law_ 555 L rest (u.1 + 0, u.2 + 0) Q)) (hr : rest.length ≤ 4 := by exact Nat.le_of_ble_eq_true rfl) : Ex g mL_law_ 552 L (a1 :: vR x :: rest) h u Q := Ex.callV (av := [a1]) (r := (RX10, TX10, 27)) rfl mX10_unlaw_ok rfl lkL_142 imX10_unlaw seX10_unlaw rfl hx (by decide) hu.1 hu.2 hr (by decide +kernel) ev (fun _ _ k => k) (fun _ _ z => z)
theorem sL_law__558 {g : Gp} {L rest : List AV} {h : AH} {u : Nat × Nat} {Q : PQ} {x : Nat}  (hu : u.1 + 0 ≤ 20000 ∧ u.2 + 0 ≤ 900000) (hx : zK h x = (1, 10)) (ev : Ev g mX10_thrown (vR x :: []) h (cont g mL_law_ 561 L rest (u.1 + 0, u.2 + 0) Q)) (hr : rest.length ≤ 4 := by exact Nat.le_of_ble_eq_true rfl) : Ex g mL_law_ 558 L (vR x :: rest) h u Q := Ex.callV (av := []) (r := (RX10, TX10, 27)) rfl mX10_thrown_ok rfl lkL_122 imX10_thrown seX10_thrown rfl hx (by decide) hu.1 hu.2 hr (by decide +kernel) ev (fun _ _ k => k) (fun _ _ z => z)
def bL_law__543 : List OP := [(.istore 6, 2, (6, 0, 0), vU), (.aload_n 2, 1, (2, 0, 0), vU)]
theorem oL_law__543 : okAt mL_law_ bL_law__543 543 = true := by decide +kernel
theorem rL_law__543 {g : Gp} {Q : PQ} {L st : List AV} {h : AH} {u : Nat × Nat} (hr : run mL_law_ Q (fun pc L st h u => Ex g mL_law_ pc L st h u Q) bL_law__543 543 L st h u) : Ex g mL_law_ 543 L st h u Q := run_ok (M := mL_law_) cfL_ok (fun _ _ _ _ _ k => k) _ _ _ _ _ _ oL_law__543 hr
def bL_law__555 : List OP := [(.istore 7, 2, (7, 0, 0), vU), (.aload_n 2, 1, (2, 0, 0), vU)]
theorem oL_law__555 : okAt mL_law_ bL_law__555 555 = true := by decide +kernel
theorem rL_law__555 {g : Gp} {Q : PQ} {L st : List AV} {h : AH} {u : Nat × Nat} (hr : run mL_law_ Q (fun pc L st h u => Ex g mL_law_ pc L st h u Q) bL_law__555 555 L st h u) : Ex g mL_law_ 555 L st h u Q := run_ok (M := mL_law_) cfL_ok (fun _ _ _ _ _ k => k) _ _ _ _ _ _ oL_law__555 hr
def bL_law__561 : List OP := [(.iload 6, 2, (6, 0, 0), vU), (.if_icmp .eq 5, 3, (568, 0, 0), vU), (.iconst 0, 1, (0, 0, 0), vI 0), (.ireturn, 1, (0, 0, 0), vU)]
theorem oL_law__561 : okAt mL_law_ bL_law__561 561 = true := by decide +kernel
theorem rL_law__561 {g : Gp} {Q : PQ} {L st : List AV} {h : AH} {u : Nat × Nat} (hr : run mL_law_ Q (fun pc L st h u => Ex g mL_law_ pc L st h u Q) bL_law__561 561 L st h u) : Ex g mL_law_ 561 L st h u Q := run_ok (M := mL_law_) cfL_ok (fun _ _ _ _ _ k => k) _ _ _ _ _ _ oL_law__561 hr
def bL_law__568 : List OP := [(.iload 6, 2, (6, 0, 0), vU), (.ifCond .ne 15, 3, (585, 0, 0), vU), (.aload_n 3, 1, (3, 0, 0), vU), (.iconst 0, 1, (0, 0, 0), vI 0), (.laload, 1, (0, 0, 0), vU), (.iload 7, 2, (7, 0, 0), vU), (.i2l, 1, (0, 0, 0), vU), (.lcmp, 1, (0, 0, 0), vU), (.ifCond .eq 5, 3, (585, 0, 0), vU), (.iconst 0, 1, (0, 0, 0), vI 0), (.ireturn, 1, (0, 0, 0), vU)]
theorem oL_law__568 : okAt mL_law_ bL_law__568 568 = true := by decide +kernel
theorem rL_law__568 {g : Gp} {Q : PQ} {L st : List AV} {h : AH} {u : Nat × Nat} (hr : run mL_law_ Q (fun pc L st h u => Ex g mL_law_ pc L st h u Q) bL_law__568 568 L st h u) : Ex g mL_law_ 568 L st h u Q := run_ok (M := mL_law_) cfL_ok (fun _ _ _ _ _ k => k) _ _ _ _ _ _ oL_law__568 hr
def bL_law__585 : List OP := [(.goto 1751, 3, (2336, 0, 0), vU)]
theorem oL_law__585 : okAt mL_law_ bL_law__585 585 = true := by decide +kernel
theorem rL_law__585 {g : Gp} {Q : PQ} {L st : List AV} {h : AH} {u : Nat × Nat} (hr : run mL_law_ Q (fun pc L st h u => Ex g mL_law_ pc L st h u Q) bL_law__585 585 L st h u) : Ex g mL_law_ 585 L st h u Q := run_ok (M := mL_law_) cfL_ok (fun _ _ _ _ _ k => k) _ _ _ _ _ _ oL_law__585 hr
theorem t_unlaw {g : Gp} {Q : PQ} {h : AH} {u : Nat × Nat} {i : Nat} {c v : Int32} (ms : ModS h) (kd : Kd h) (e : zI h 99 0 = c) (hz : c = 0 → zL h 122 0 = v.toInt64) (hu : u.1 ≤ 20000 ∧ u.2 ≤ 900000) (K : Ex g mL_law_ 2336 (LW9 i) [] h u Q) : Ex g mL_law_ 555 [vR 1, vR 4, vR 99, vR 122, vR 123, vI (nI i), vI c, vU, vU] [vI v] h u Q := by
  refine rL_law__555 ?_
  simp only [bL_law__555, run, Nat.reduceAdd, lg, st1, st2, lkill, lset, fvv, sfv, kind3, cat1, retI, retA, List.length_cons, List.length_nil, true_and, and_true, or_true, true_or, qL_law_]
  refine sL_law__558 hu ms.1 (e_thrown ms ?_)
  simp only [cont, Option.toList, List.cons_append, List.nil_append]
  rw [e]
  refine rL_law__561 ?_
  simp only [bL_law__561, run, Nat.reduceAdd, lg, st1, st2, lkill, lset, fvv, sfv, kind3, cat1, retI, retA, List.length_cons, List.length_nil, true_and, and_true, or_true, true_or, qL_law_, not_true_eq_false, not_false_eq_true, false_implies, true_and, and_true, tti, not_true_eq_false, false_implies]
  by_cases c0 : c = 0
  · refine rL_law__568 ?_
    simp only [bL_law__568, run, Nat.reduceAdd, lg, st1, st2, lkill, lset, fvv, sfv, kind3, cat1, retI, retA, List.length_cons, List.length_nil, true_and, and_true, or_true, true_or, qL_law_, c0, kd.1, hz c0, lcmp_self, kL, kI, kD, kR, rL, rI, rD, iL, iD, iR, lI, lD, lR, show (Int32.toNatClampNeg 0) = 0 from rfl, not_true_eq_false, not_false_eq_true, false_implies, true_and, and_true, tti, not_true_eq_false, false_implies]
    refine ⟨vin01, ?_⟩
    refine rL_law__585 ?_
    simp only [bL_law__585, run, Nat.reduceAdd, lg, st1, st2, lkill, lset, fvv, sfv, kind3, cat1, retI, retA, List.length_cons, List.length_nil, true_and, and_true, or_true, true_or, qL_law_]
    exact Ex.fgt9 K
  · refine rL_law__568 ?_
    simp only [bL_law__568, run, Nat.reduceAdd, lg, st1, st2, lkill, lset, fvv, sfv, kind3, cat1, retI, retA, List.length_cons, List.length_nil, true_and, and_true, or_true, true_or, qL_law_, c0, not_true_eq_false, not_false_eq_true, false_implies, true_and, and_true, tti, not_false_eq_true, true_implies, false_implies]
    refine rL_law__585 ?_
    simp only [bL_law__585, run, Nat.reduceAdd, lg, st1, st2, lkill, lset, fvv, sfv, kind3, cat1, retI, retA, List.length_cons, List.length_nil, true_and, and_true, or_true, true_or, qL_law_]
    exact Ex.fgt9 K
theorem sL_law__614 {g : Gp} {L rest : List AV} {h : AH} {u : Nat × Nat} {Q : PQ} {a1 a2 a3 a4 a5 a6 : AV} (hu : u.1 + 5 ≤ 20000 ∧ u.2 + 37 ≤ 900000) (ev : Ev g mL_loan [a1, a2, a3, a4, a5, a6] h (cont g mL_law_ 617 L rest (u.1 + 5, u.2 + 37) Q)) (hr : rest.length ≤ 4 := by exact Nat.le_of_ble_eq_true rfl) : Ex g mL_law_ 614 L (a6 :: a5 :: a4 :: a3 :: a2 :: a1 :: rest) h u Q := Ex.callSW (av := [a1, a2, a3, a4, a5, a6]) rfl mL_loan_ok rfl (by decide) lkL_143 smL_loan (by decide) hu.1 hu.2 hr (by decide +kernel) ev (fun _ _ k => k) (fun _ _ z => z)
theorem sL_law__644 {g : Gp} {L rest : List AV} {h : AH} {u : Nat × Nat} {Q : PQ} {x : Nat} {a1 a2 a3 a4 : AV} (hu : u.1 + 0 ≤ 20000 ∧ u.2 + 0 ≤ 900000) (hx : zK h x = (1, 10)) (ev : Ev g mX10_loan (vR x :: [a1, a2, a3, a4]) h (cont g mL_law_ 647 L rest (u.1 + 0, u.2 + 0) Q)) (hr : rest.length ≤ 4 := by exact Nat.le_of_ble_eq_true rfl) : Ex g mL_law_ 644 L (a4 :: a3 :: a2 :: a1 :: vR x :: rest) h u Q := Ex.callV (av := [a1, a2, a3, a4]) (r := (RX10, TX10, 27)) rfl mX10_loan_ok rfl lkL_146 imX10_loan seX10_loan rfl hx (by decide) hu.1 hu.2 hr (by decide +kernel) ev (fun _ _ k => k) (fun _ _ z => z)
theorem sL_law__650 {g : Gp} {L rest : List AV} {h : AH} {u : Nat × Nat} {Q : PQ} {x : Nat}  (hu : u.1 + 0 ≤ 20000 ∧ u.2 + 0 ≤ 900000) (hx : zK h x = (1, 10)) (ev : Ev g mX10_thrown (vR x :: []) h (cont g mL_law_ 653 L rest (u.1 + 0, u.2 + 0) Q)) (hr : rest.length ≤ 4 := by exact Nat.le_of_ble_eq_true rfl) : Ex g mL_law_ 650 L (vR x :: rest) h u Q := Ex.callV (av := []) (r := (RX10, TX10, 27)) rfl mX10_thrown_ok rfl lkL_122 imX10_thrown seX10_thrown rfl hx (by decide) hu.1 hu.2 hr (by decide +kernel) ev (fun _ _ k => k) (fun _ _ z => z)
def bL_law__617 : List OP := [(.istore 6, 2, (6, 0, 0), vU), (.aload_n 2, 1, (2, 0, 0), vU)]
theorem oL_law__617 : okAt mL_law_ bL_law__617 617 = true := by decide +kernel
theorem rL_law__617 {g : Gp} {Q : PQ} {L st : List AV} {h : AH} {u : Nat × Nat} (hr : run mL_law_ Q (fun pc L st h u => Ex g mL_law_ pc L st h u Q) bL_law__617 617 L st h u) : Ex g mL_law_ 617 L st h u Q := run_ok (M := mL_law_) cfL_ok (fun _ _ _ _ _ k => k) _ _ _ _ _ _ oL_law__617 hr
def bL_law__647 : List OP := [(.istore 7, 2, (7, 0, 0), vU), (.aload_n 2, 1, (2, 0, 0), vU)]
theorem oL_law__647 : okAt mL_law_ bL_law__647 647 = true := by decide +kernel
theorem rL_law__647 {g : Gp} {Q : PQ} {L st : List AV} {h : AH} {u : Nat × Nat} (hr : run mL_law_ Q (fun pc L st h u => Ex g mL_law_ pc L st h u Q) bL_law__647 647 L st h u) : Ex g mL_law_ 647 L st h u Q := run_ok (M := mL_law_) cfL_ok (fun _ _ _ _ _ k => k) _ _ _ _ _ _ oL_law__647 hr
def bL_law__653 : List OP := [(.iload 6, 2, (6, 0, 0), vU), (.if_icmp .eq 5, 3, (660, 0, 0), vU), (.iconst 0, 1, (0, 0, 0), vI 0), (.ireturn, 1, (0, 0, 0), vU)]
theorem oL_law__653 : okAt mL_law_ bL_law__653 653 = true := by decide +kernel
theorem rL_law__653 {g : Gp} {Q : PQ} {L st : List AV} {h : AH} {u : Nat × Nat} (hr : run mL_law_ Q (fun pc L st h u => Ex g mL_law_ pc L st h u Q) bL_law__653 653 L st h u) : Ex g mL_law_ 653 L st h u Q := run_ok (M := mL_law_) cfL_ok (fun _ _ _ _ _ k => k) _ _ _ _ _ _ oL_law__653 hr
def bL_law__660 : List OP := [(.iload 6, 2, (6, 0, 0), vU), (.ifCond .ne 15, 3, (677, 0, 0), vU), (.aload_n 3, 1, (3, 0, 0), vU), (.iconst 0, 1, (0, 0, 0), vI 0), (.laload, 1, (0, 0, 0), vU), (.iload 7, 2, (7, 0, 0), vU), (.i2l, 1, (0, 0, 0), vU), (.lcmp, 1, (0, 0, 0), vU), (.ifCond .eq 5, 3, (677, 0, 0), vU), (.iconst 0, 1, (0, 0, 0), vI 0), (.ireturn, 1, (0, 0, 0), vU)]
theorem oL_law__660 : okAt mL_law_ bL_law__660 660 = true := by decide +kernel
theorem rL_law__660 {g : Gp} {Q : PQ} {L st : List AV} {h : AH} {u : Nat × Nat} (hr : run mL_law_ Q (fun pc L st h u => Ex g mL_law_ pc L st h u Q) bL_law__660 660 L st h u) : Ex g mL_law_ 660 L st h u Q := run_ok (M := mL_law_) cfL_ok (fun _ _ _ _ _ k => k) _ _ _ _ _ _ oL_law__660 hr
def bL_law__677 : List OP := [(.goto 1659, 3, (2336, 0, 0), vU)]
theorem oL_law__677 : okAt mL_law_ bL_law__677 677 = true := by decide +kernel
theorem rL_law__677 {g : Gp} {Q : PQ} {L st : List AV} {h : AH} {u : Nat × Nat} (hr : run mL_law_ Q (fun pc L st h u => Ex g mL_law_ pc L st h u Q) bL_law__677 677 L st h u) : Ex g mL_law_ 677 L st h u Q := run_ok (M := mL_law_) cfL_ok (fun _ _ _ _ _ k => k) _ _ _ _ _ _ oL_law__677 hr
theorem t_loan {g : Gp} {Q : PQ} {h : AH} {u : Nat × Nat} {i : Nat} {c v : Int32} (ms : ModS h) (kd : Kd h) (e : zI h 99 0 = c) (hz : c = 0 → zL h 122 0 = v.toInt64) (hu : u.1 ≤ 20000 ∧ u.2 ≤ 900000) (K : Ex g mL_law_ 2336 (LW9 i) [] h u Q) : Ex g mL_law_ 647 [vR 1, vR 4, vR 99, vR 122, vR 123, vI (nI i), vI c, vU, vU] [vI v] h u Q := by
  refine rL_law__647 ?_
  simp only [bL_law__647, run, Nat.reduceAdd, lg, st1, st2, lkill, lset, fvv, sfv, kind3, cat1, retI, retA, List.length_cons, List.length_nil, true_and, and_true, or_true, true_or, qL_law_]
  refine sL_law__650 hu ms.1 (e_thrown ms ?_)
  simp only [cont, Option.toList, List.cons_append, List.nil_append]
  rw [e]
  refine rL_law__653 ?_
  simp only [bL_law__653, run, Nat.reduceAdd, lg, st1, st2, lkill, lset, fvv, sfv, kind3, cat1, retI, retA, List.length_cons, List.length_nil, true_and, and_true, or_true, true_or, qL_law_, not_true_eq_false, not_false_eq_true, false_implies, true_and, and_true, tti, not_true_eq_false, false_implies]
  by_cases c0 : c = 0
  · refine rL_law__660 ?_
    simp only [bL_law__660, run, Nat.reduceAdd, lg, st1, st2, lkill, lset, fvv, sfv, kind3, cat1, retI, retA, List.length_cons, List.length_nil, true_and, and_true, or_true, true_or, qL_law_, c0, kd.1, hz c0, lcmp_self, kL, kI, kD, kR, rL, rI, rD, iL, iD, iR, lI, lD, lR, show (Int32.toNatClampNeg 0) = 0 from rfl, not_true_eq_false, not_false_eq_true, false_implies, true_and, and_true, tti, not_true_eq_false, false_implies]
    refine ⟨vin01, ?_⟩
    refine rL_law__677 ?_
    simp only [bL_law__677, run, Nat.reduceAdd, lg, st1, st2, lkill, lset, fvv, sfv, kind3, cat1, retI, retA, List.length_cons, List.length_nil, true_and, and_true, or_true, true_or, qL_law_]
    exact Ex.fgt9 K
  · refine rL_law__660 ?_
    simp only [bL_law__660, run, Nat.reduceAdd, lg, st1, st2, lkill, lset, fvv, sfv, kind3, cat1, retI, retA, List.length_cons, List.length_nil, true_and, and_true, or_true, true_or, qL_law_, c0, not_true_eq_false, not_false_eq_true, false_implies, true_and, and_true, tti, not_false_eq_true, true_implies, false_implies]
    refine rL_law__677 ?_
    simp only [bL_law__677, run, Nat.reduceAdd, lg, st1, st2, lkill, lset, fvv, sfv, kind3, cat1, retI, retA, List.length_cons, List.length_nil, true_and, and_true, or_true, true_or, qL_law_]
    exact Ex.fgt9 K
theorem sL_law__681 {g : Gp} {L rest : List AV} {h : AH} {u : Nat × Nat} {Q : PQ} {x : Nat}  (hu : u.1 + 0 ≤ 20000 ∧ u.2 + 0 ≤ 900000) (hx : zK h x = (1, 9)) (ev : Ev g mX9_languages (vR x :: []) h (cont g mL_law_ 684 L rest (u.1 + 0, u.2 + 0) Q)) (hr : rest.length ≤ 4 := by exact Nat.le_of_ble_eq_true rfl) : Ex g mL_law_ 681 L (vR x :: rest) h u Q := Ex.callV (av := []) (r := (RX9, TX9, 10)) rfl mX9_languages_ok rfl lkL_147 imX9_languages seX9_languages rfl hx (by decide) hu.1 hu.2 hr (by decide +kernel) ev (fun _ _ k => k) (fun _ _ z => z)
theorem sL_law__685 {g : Gp} {L rest : List AV} {h : AH} {u : Nat × Nat} {Q : PQ} {x : Nat}  (hu : u.1 + 0 ≤ 20000 ∧ u.2 + 0 ≤ 900000) (hx : zK h x = (1, 10)) (ev : Ev g mX10_languages (vR x :: []) h (cont g mL_law_ 688 L rest (u.1 + 0, u.2 + 0) Q)) (hr : rest.length ≤ 4 := by exact Nat.le_of_ble_eq_true rfl) : Ex g mL_law_ 685 L (vR x :: rest) h u Q := Ex.callV (av := []) (r := (RX10, TX10, 27)) rfl mX10_languages_ok rfl lkL_150 imX10_languages seX10_languages rfl hx (by decide) hu.1 hu.2 hr (by decide +kernel) ev (fun _ _ k => k) (fun _ _ z => z)
def bL_law__688 : List OP := [(.if_icmp .eq 1648, 3, (2336, 0, 0), vU), (.iconst 0, 1, (0, 0, 0), vI 0), (.ireturn, 1, (0, 0, 0), vU)]
theorem oL_law__688 : okAt mL_law_ bL_law__688 688 = true := by decide +kernel
theorem rL_law__688 {g : Gp} {Q : PQ} {L st : List AV} {h : AH} {u : Nat × Nat} (hr : run mL_law_ Q (fun pc L st h u => Ex g mL_law_ pc L st h u Q) bL_law__688 688 L st h u) : Ex g mL_law_ 688 L st h u Q := run_ok (M := mL_law_) cfL_ok (fun _ _ _ _ _ k => k) _ _ _ _ _ _ oL_law__688 hr
theorem sL_law__701 {g : Gp} {L rest : List AV} {h : AH} {u : Nat × Nat} {Q : PQ} {a1 a2 a3 : AV} (hu : u.1 + 1 ≤ 20000 ∧ u.2 + 6 ≤ 900000) (ev : Ev g mL_laws [a1, a2, a3] h (cont g mL_law_ 704 L rest (u.1 + 1, u.2 + 6) Q)) (hr : rest.length ≤ 4 := by exact Nat.le_of_ble_eq_true rfl) : Ex g mL_law_ 701 L (a3 :: a2 :: a1 :: rest) h u Q := Ex.callSW (av := [a1, a2, a3]) rfl mL_laws_ok rfl (by decide) lkL_151 smL_laws (by decide) hu.1 hu.2 hr (by decide +kernel) ev (fun _ _ k => k) (fun _ _ z => z)
theorem sL_law__713 {g : Gp} {L rest : List AV} {h : AH} {u : Nat × Nat} {Q : PQ} {x : Nat} {a1 : AV} (hu : u.1 + 0 ≤ 20000 ∧ u.2 + 0 ≤ 900000) (hx : zK h x = (1, 10)) (ev : Ev g mX10_laws (vR x :: [a1]) h (cont g mL_law_ 716 L rest (u.1 + 0, u.2 + 0) Q)) (hr : rest.length ≤ 4 := by exact Nat.le_of_ble_eq_true rfl) : Ex g mL_law_ 713 L (a1 :: vR x :: rest) h u Q := Ex.callV (av := [a1]) (r := (RX10, TX10, 27)) rfl mX10_laws_ok rfl lkL_153 imX10_laws seX10_laws rfl hx (by decide) hu.1 hu.2 hr (by decide +kernel) ev (fun _ _ k => k) (fun _ _ z => z)
theorem sL_law__719 {g : Gp} {L rest : List AV} {h : AH} {u : Nat × Nat} {Q : PQ} {x : Nat}  (hu : u.1 + 0 ≤ 20000 ∧ u.2 + 0 ≤ 900000) (hx : zK h x = (1, 10)) (ev : Ev g mX10_thrown (vR x :: []) h (cont g mL_law_ 722 L rest (u.1 + 0, u.2 + 0) Q)) (hr : rest.length ≤ 4 := by exact Nat.le_of_ble_eq_true rfl) : Ex g mL_law_ 719 L (vR x :: rest) h u Q := Ex.callV (av := []) (r := (RX10, TX10, 27)) rfl mX10_thrown_ok rfl lkL_122 imX10_thrown seX10_thrown rfl hx (by decide) hu.1 hu.2 hr (by decide +kernel) ev (fun _ _ k => k) (fun _ _ z => z)
def bL_law__704 : List OP := [(.istore 6, 2, (6, 0, 0), vU), (.aload_n 2, 1, (2, 0, 0), vU)]
theorem oL_law__704 : okAt mL_law_ bL_law__704 704 = true := by decide +kernel
theorem rL_law__704 {g : Gp} {Q : PQ} {L st : List AV} {h : AH} {u : Nat × Nat} (hr : run mL_law_ Q (fun pc L st h u => Ex g mL_law_ pc L st h u Q) bL_law__704 704 L st h u) : Ex g mL_law_ 704 L st h u Q := run_ok (M := mL_law_) cfL_ok (fun _ _ _ _ _ k => k) _ _ _ _ _ _ oL_law__704 hr
def bL_law__716 : List OP := [(.istore 7, 2, (7, 0, 0), vU), (.aload_n 2, 1, (2, 0, 0), vU)]
theorem oL_law__716 : okAt mL_law_ bL_law__716 716 = true := by decide +kernel
theorem rL_law__716 {g : Gp} {Q : PQ} {L st : List AV} {h : AH} {u : Nat × Nat} (hr : run mL_law_ Q (fun pc L st h u => Ex g mL_law_ pc L st h u Q) bL_law__716 716 L st h u) : Ex g mL_law_ 716 L st h u Q := run_ok (M := mL_law_) cfL_ok (fun _ _ _ _ _ k => k) _ _ _ _ _ _ oL_law__716 hr
def bL_law__722 : List OP := [(.iload 6, 2, (6, 0, 0), vU), (.if_icmp .eq 5, 3, (729, 0, 0), vU), (.iconst 0, 1, (0, 0, 0), vI 0), (.ireturn, 1, (0, 0, 0), vU)]
theorem oL_law__722 : okAt mL_law_ bL_law__722 722 = true := by decide +kernel
theorem rL_law__722 {g : Gp} {Q : PQ} {L st : List AV} {h : AH} {u : Nat × Nat} (hr : run mL_law_ Q (fun pc L st h u => Ex g mL_law_ pc L st h u Q) bL_law__722 722 L st h u) : Ex g mL_law_ 722 L st h u Q := run_ok (M := mL_law_) cfL_ok (fun _ _ _ _ _ k => k) _ _ _ _ _ _ oL_law__722 hr
def bL_law__729 : List OP := [(.iload 6, 2, (6, 0, 0), vU), (.ifCond .ne 15, 3, (746, 0, 0), vU), (.aload_n 3, 1, (3, 0, 0), vU), (.iconst 0, 1, (0, 0, 0), vI 0), (.laload, 1, (0, 0, 0), vU), (.iload 7, 2, (7, 0, 0), vU), (.i2l, 1, (0, 0, 0), vU), (.lcmp, 1, (0, 0, 0), vU), (.ifCond .eq 5, 3, (746, 0, 0), vU), (.iconst 0, 1, (0, 0, 0), vI 0), (.ireturn, 1, (0, 0, 0), vU)]
theorem oL_law__729 : okAt mL_law_ bL_law__729 729 = true := by decide +kernel
theorem rL_law__729 {g : Gp} {Q : PQ} {L st : List AV} {h : AH} {u : Nat × Nat} (hr : run mL_law_ Q (fun pc L st h u => Ex g mL_law_ pc L st h u Q) bL_law__729 729 L st h u) : Ex g mL_law_ 729 L st h u Q := run_ok (M := mL_law_) cfL_ok (fun _ _ _ _ _ k => k) _ _ _ _ _ _ oL_law__729 hr
def bL_law__746 : List OP := [(.goto 1590, 3, (2336, 0, 0), vU)]
theorem oL_law__746 : okAt mL_law_ bL_law__746 746 = true := by decide +kernel
theorem rL_law__746 {g : Gp} {Q : PQ} {L st : List AV} {h : AH} {u : Nat × Nat} (hr : run mL_law_ Q (fun pc L st h u => Ex g mL_law_ pc L st h u Q) bL_law__746 746 L st h u) : Ex g mL_law_ 746 L st h u Q := run_ok (M := mL_law_) cfL_ok (fun _ _ _ _ _ k => k) _ _ _ _ _ _ oL_law__746 hr
theorem t_laws {g : Gp} {Q : PQ} {h : AH} {u : Nat × Nat} {i : Nat} {c v : Int32} (ms : ModS h) (kd : Kd h) (e : zI h 99 0 = c) (hz : c = 0 → zL h 122 0 = v.toInt64) (hu : u.1 ≤ 20000 ∧ u.2 ≤ 900000) (K : Ex g mL_law_ 2336 (LW9 i) [] h u Q) : Ex g mL_law_ 716 [vR 1, vR 4, vR 99, vR 122, vR 123, vI (nI i), vI c, vU, vU] [vI v] h u Q := by
  refine rL_law__716 ?_
  simp only [bL_law__716, run, Nat.reduceAdd, lg, st1, st2, lkill, lset, fvv, sfv, kind3, cat1, retI, retA, List.length_cons, List.length_nil, true_and, and_true, or_true, true_or, qL_law_]
  refine sL_law__719 hu ms.1 (e_thrown ms ?_)
  simp only [cont, Option.toList, List.cons_append, List.nil_append]
  rw [e]
  refine rL_law__722 ?_
  simp only [bL_law__722, run, Nat.reduceAdd, lg, st1, st2, lkill, lset, fvv, sfv, kind3, cat1, retI, retA, List.length_cons, List.length_nil, true_and, and_true, or_true, true_or, qL_law_, not_true_eq_false, not_false_eq_true, false_implies, true_and, and_true, tti, not_true_eq_false, false_implies]
  by_cases c0 : c = 0
  · refine rL_law__729 ?_
    simp only [bL_law__729, run, Nat.reduceAdd, lg, st1, st2, lkill, lset, fvv, sfv, kind3, cat1, retI, retA, List.length_cons, List.length_nil, true_and, and_true, or_true, true_or, qL_law_, c0, kd.1, hz c0, lcmp_self, kL, kI, kD, kR, rL, rI, rD, iL, iD, iR, lI, lD, lR, show (Int32.toNatClampNeg 0) = 0 from rfl, not_true_eq_false, not_false_eq_true, false_implies, true_and, and_true, tti, not_true_eq_false, false_implies]
    refine ⟨vin01, ?_⟩
    refine rL_law__746 ?_
    simp only [bL_law__746, run, Nat.reduceAdd, lg, st1, st2, lkill, lset, fvv, sfv, kind3, cat1, retI, retA, List.length_cons, List.length_nil, true_and, and_true, or_true, true_or, qL_law_]
    exact Ex.fgt9 K
  · refine rL_law__729 ?_
    simp only [bL_law__729, run, Nat.reduceAdd, lg, st1, st2, lkill, lset, fvv, sfv, kind3, cat1, retI, retA, List.length_cons, List.length_nil, true_and, and_true, or_true, true_or, qL_law_, c0, not_true_eq_false, not_false_eq_true, false_implies, true_and, and_true, tti, not_false_eq_true, true_implies, false_implies]
    refine rL_law__746 ?_
    simp only [bL_law__746, run, Nat.reduceAdd, lg, st1, st2, lkill, lset, fvv, sfv, kind3, cat1, retI, retA, List.length_cons, List.length_nil, true_and, and_true, or_true, true_or, qL_law_]
    exact Ex.fgt9 K
theorem sL_law__750 {g : Gp} {L rest : List AV} {h : AH} {u : Nat × Nat} {Q : PQ} {x : Nat}  (hu : u.1 + 0 ≤ 20000 ∧ u.2 + 0 ≤ 900000) (hx : zK h x = (1, 9)) (ev : Ev g mX9_loans (vR x :: []) h (cont g mL_law_ 753 L rest (u.1 + 0, u.2 + 0) Q)) (hr : rest.length ≤ 4 := by exact Nat.le_of_ble_eq_true rfl) : Ex g mL_law_ 750 L (vR x :: rest) h u Q := Ex.callV (av := []) (r := (RX9, TX9, 10)) rfl mX9_loans_ok rfl lkL_154 imX9_loans seX9_loans rfl hx (by decide) hu.1 hu.2 hr (by decide +kernel) ev (fun _ _ k => k) (fun _ _ z => z)
theorem sL_law__754 {g : Gp} {L rest : List AV} {h : AH} {u : Nat × Nat} {Q : PQ} {x : Nat}  (hu : u.1 + 0 ≤ 20000 ∧ u.2 + 0 ≤ 900000) (hx : zK h x = (1, 10)) (ev : Ev g mX10_loans (vR x :: []) h (cont g mL_law_ 757 L rest (u.1 + 0, u.2 + 0) Q)) (hr : rest.length ≤ 4 := by exact Nat.le_of_ble_eq_true rfl) : Ex g mL_law_ 754 L (vR x :: rest) h u Q := Ex.callV (av := []) (r := (RX10, TX10, 27)) rfl mX10_loans_ok rfl lkL_157 imX10_loans seX10_loans rfl hx (by decide) hu.1 hu.2 hr (by decide +kernel) ev (fun _ _ k => k) (fun _ _ z => z)
def bL_law__757 : List OP := [(.if_icmp .eq 1579, 3, (2336, 0, 0), vU), (.iconst 0, 1, (0, 0, 0), vI 0), (.ireturn, 1, (0, 0, 0), vU)]
theorem oL_law__757 : okAt mL_law_ bL_law__757 757 = true := by decide +kernel
theorem rL_law__757 {g : Gp} {Q : PQ} {L st : List AV} {h : AH} {u : Nat × Nat} (hr : run mL_law_ Q (fun pc L st h u => Ex g mL_law_ pc L st h u Q) bL_law__757 757 L st h u) : Ex g mL_law_ 757 L st h u Q := run_ok (M := mL_law_) cfL_ok (fun _ _ _ _ _ k => k) _ _ _ _ _ _ oL_law__757 hr
theorem sL_law__776 {g : Gp} {L rest : List AV} {h : AH} {u : Nat × Nat} {Q : PQ} {a1 a2 a3 a4 : AV} (hu : u.1 + 1 ≤ 20000 ∧ u.2 + 6 ≤ 900000) (ev : Ev g mL_common [a1, a2, a3, a4] h (cont g mL_law_ 779 L rest (u.1 + 1, u.2 + 6) Q)) (hr : rest.length ≤ 4 := by exact Nat.le_of_ble_eq_true rfl) : Ex g mL_law_ 776 L (a4 :: a3 :: a2 :: a1 :: rest) h u Q := Ex.callSW (av := [a1, a2, a3, a4]) rfl mL_common_ok rfl (by decide) lkL_158 smL_common (by decide) hu.1 hu.2 hr (by decide +kernel) ev (fun _ _ k => k) (fun _ _ z => z)
theorem sL_law__794 {g : Gp} {L rest : List AV} {h : AH} {u : Nat × Nat} {Q : PQ} {x : Nat} {a1 a2 : AV} (hu : u.1 + 0 ≤ 20000 ∧ u.2 + 0 ≤ 900000) (hx : zK h x = (1, 10)) (ev : Ev g mX10_common (vR x :: [a1, a2]) h (cont g mL_law_ 797 L rest (u.1 + 0, u.2 + 0) Q)) (hr : rest.length ≤ 4 := by exact Nat.le_of_ble_eq_true rfl) : Ex g mL_law_ 794 L (a2 :: a1 :: vR x :: rest) h u Q := Ex.callV (av := [a1, a2]) (r := (RX10, TX10, 27)) rfl mX10_common_ok rfl lkL_160 imX10_common seX10_common rfl hx (by decide) hu.1 hu.2 hr (by decide +kernel) ev (fun _ _ k => k) (fun _ _ z => z)
theorem sL_law__800 {g : Gp} {L rest : List AV} {h : AH} {u : Nat × Nat} {Q : PQ} {x : Nat}  (hu : u.1 + 0 ≤ 20000 ∧ u.2 + 0 ≤ 900000) (hx : zK h x = (1, 10)) (ev : Ev g mX10_thrown (vR x :: []) h (cont g mL_law_ 803 L rest (u.1 + 0, u.2 + 0) Q)) (hr : rest.length ≤ 4 := by exact Nat.le_of_ble_eq_true rfl) : Ex g mL_law_ 800 L (vR x :: rest) h u Q := Ex.callV (av := []) (r := (RX10, TX10, 27)) rfl mX10_thrown_ok rfl lkL_122 imX10_thrown seX10_thrown rfl hx (by decide) hu.1 hu.2 hr (by decide +kernel) ev (fun _ _ k => k) (fun _ _ z => z)
def bL_law__779 : List OP := [(.istore 6, 2, (6, 0, 0), vU), (.aload_n 2, 1, (2, 0, 0), vU)]
theorem oL_law__779 : okAt mL_law_ bL_law__779 779 = true := by decide +kernel
theorem rL_law__779 {g : Gp} {Q : PQ} {L st : List AV} {h : AH} {u : Nat × Nat} (hr : run mL_law_ Q (fun pc L st h u => Ex g mL_law_ pc L st h u Q) bL_law__779 779 L st h u) : Ex g mL_law_ 779 L st h u Q := run_ok (M := mL_law_) cfL_ok (fun _ _ _ _ _ k => k) _ _ _ _ _ _ oL_law__779 hr
def bL_law__797 : List OP := [(.istore 7, 2, (7, 0, 0), vU), (.aload_n 2, 1, (2, 0, 0), vU)]
theorem oL_law__797 : okAt mL_law_ bL_law__797 797 = true := by decide +kernel
theorem rL_law__797 {g : Gp} {Q : PQ} {L st : List AV} {h : AH} {u : Nat × Nat} (hr : run mL_law_ Q (fun pc L st h u => Ex g mL_law_ pc L st h u Q) bL_law__797 797 L st h u) : Ex g mL_law_ 797 L st h u Q := run_ok (M := mL_law_) cfL_ok (fun _ _ _ _ _ k => k) _ _ _ _ _ _ oL_law__797 hr
def bL_law__803 : List OP := [(.iload 6, 2, (6, 0, 0), vU), (.if_icmp .eq 5, 3, (810, 0, 0), vU), (.iconst 0, 1, (0, 0, 0), vI 0), (.ireturn, 1, (0, 0, 0), vU)]
theorem oL_law__803 : okAt mL_law_ bL_law__803 803 = true := by decide +kernel
theorem rL_law__803 {g : Gp} {Q : PQ} {L st : List AV} {h : AH} {u : Nat × Nat} (hr : run mL_law_ Q (fun pc L st h u => Ex g mL_law_ pc L st h u Q) bL_law__803 803 L st h u) : Ex g mL_law_ 803 L st h u Q := run_ok (M := mL_law_) cfL_ok (fun _ _ _ _ _ k => k) _ _ _ _ _ _ oL_law__803 hr
def bL_law__810 : List OP := [(.iload 6, 2, (6, 0, 0), vU), (.ifCond .ne 15, 3, (827, 0, 0), vU), (.aload_n 3, 1, (3, 0, 0), vU), (.iconst 0, 1, (0, 0, 0), vI 0), (.laload, 1, (0, 0, 0), vU), (.iload 7, 2, (7, 0, 0), vU), (.i2l, 1, (0, 0, 0), vU), (.lcmp, 1, (0, 0, 0), vU), (.ifCond .eq 5, 3, (827, 0, 0), vU), (.iconst 0, 1, (0, 0, 0), vI 0), (.ireturn, 1, (0, 0, 0), vU)]
theorem oL_law__810 : okAt mL_law_ bL_law__810 810 = true := by decide +kernel
theorem rL_law__810 {g : Gp} {Q : PQ} {L st : List AV} {h : AH} {u : Nat × Nat} (hr : run mL_law_ Q (fun pc L st h u => Ex g mL_law_ pc L st h u Q) bL_law__810 810 L st h u) : Ex g mL_law_ 810 L st h u Q := run_ok (M := mL_law_) cfL_ok (fun _ _ _ _ _ k => k) _ _ _ _ _ _ oL_law__810 hr
def bL_law__827 : List OP := [(.goto 1509, 3, (2336, 0, 0), vU)]
theorem oL_law__827 : okAt mL_law_ bL_law__827 827 = true := by decide +kernel
theorem rL_law__827 {g : Gp} {Q : PQ} {L st : List AV} {h : AH} {u : Nat × Nat} (hr : run mL_law_ Q (fun pc L st h u => Ex g mL_law_ pc L st h u Q) bL_law__827 827 L st h u) : Ex g mL_law_ 827 L st h u Q := run_ok (M := mL_law_) cfL_ok (fun _ _ _ _ _ k => k) _ _ _ _ _ _ oL_law__827 hr
theorem t_common {g : Gp} {Q : PQ} {h : AH} {u : Nat × Nat} {i : Nat} {c v : Int32} (ms : ModS h) (kd : Kd h) (e : zI h 99 0 = c) (hz : c = 0 → zL h 122 0 = v.toInt64) (hu : u.1 ≤ 20000 ∧ u.2 ≤ 900000) (K : Ex g mL_law_ 2336 (LW9 i) [] h u Q) : Ex g mL_law_ 797 [vR 1, vR 4, vR 99, vR 122, vR 123, vI (nI i), vI c, vU, vU] [vI v] h u Q := by
  refine rL_law__797 ?_
  simp only [bL_law__797, run, Nat.reduceAdd, lg, st1, st2, lkill, lset, fvv, sfv, kind3, cat1, retI, retA, List.length_cons, List.length_nil, true_and, and_true, or_true, true_or, qL_law_]
  refine sL_law__800 hu ms.1 (e_thrown ms ?_)
  simp only [cont, Option.toList, List.cons_append, List.nil_append]
  rw [e]
  refine rL_law__803 ?_
  simp only [bL_law__803, run, Nat.reduceAdd, lg, st1, st2, lkill, lset, fvv, sfv, kind3, cat1, retI, retA, List.length_cons, List.length_nil, true_and, and_true, or_true, true_or, qL_law_, not_true_eq_false, not_false_eq_true, false_implies, true_and, and_true, tti, not_true_eq_false, false_implies]
  by_cases c0 : c = 0
  · refine rL_law__810 ?_
    simp only [bL_law__810, run, Nat.reduceAdd, lg, st1, st2, lkill, lset, fvv, sfv, kind3, cat1, retI, retA, List.length_cons, List.length_nil, true_and, and_true, or_true, true_or, qL_law_, c0, kd.1, hz c0, lcmp_self, kL, kI, kD, kR, rL, rI, rD, iL, iD, iR, lI, lD, lR, show (Int32.toNatClampNeg 0) = 0 from rfl, not_true_eq_false, not_false_eq_true, false_implies, true_and, and_true, tti, not_true_eq_false, false_implies]
    refine ⟨vin01, ?_⟩
    refine rL_law__827 ?_
    simp only [bL_law__827, run, Nat.reduceAdd, lg, st1, st2, lkill, lset, fvv, sfv, kind3, cat1, retI, retA, List.length_cons, List.length_nil, true_and, and_true, or_true, true_or, qL_law_]
    exact Ex.fgt9 K
  · refine rL_law__810 ?_
    simp only [bL_law__810, run, Nat.reduceAdd, lg, st1, st2, lkill, lset, fvv, sfv, kind3, cat1, retI, retA, List.length_cons, List.length_nil, true_and, and_true, or_true, true_or, qL_law_, c0, not_true_eq_false, not_false_eq_true, false_implies, true_and, and_true, tti, not_false_eq_true, true_implies, false_implies]
    refine rL_law__827 ?_
    simp only [bL_law__827, run, Nat.reduceAdd, lg, st1, st2, lkill, lset, fvv, sfv, kind3, cat1, retI, retA, List.length_cons, List.length_nil, true_and, and_true, or_true, true_or, qL_law_]
    exact Ex.fgt9 K
theorem sL_law__844 {g : Gp} {L rest : List AV} {h : AH} {u : Nat × Nat} {Q : PQ} {a1 a2 a3 a4 : AV} (hu : u.1 + 1 ≤ 20000 ∧ u.2 + 6 ≤ 900000) (ev : Ev g mL_length [a1, a2, a3, a4] h (cont g mL_law_ 847 L rest (u.1 + 1, u.2 + 6) Q)) (hr : rest.length ≤ 4 := by exact Nat.le_of_ble_eq_true rfl) : Ex g mL_law_ 844 L (a4 :: a3 :: a2 :: a1 :: rest) h u Q := Ex.callSW (av := [a1, a2, a3, a4]) rfl mL_length_ok rfl (by decide) lkL_161 smL_length (by decide) hu.1 hu.2 hr (by decide +kernel) ev (fun _ _ k => k) (fun _ _ z => z)
theorem sL_law__862 {g : Gp} {L rest : List AV} {h : AH} {u : Nat × Nat} {Q : PQ} {x : Nat} {a1 a2 : AV} (hu : u.1 + 0 ≤ 20000 ∧ u.2 + 0 ≤ 900000) (hx : zK h x = (1, 10)) (ev : Ev g mX10_length_ (vR x :: [a1, a2]) h (cont g mL_law_ 865 L rest (u.1 + 0, u.2 + 0) Q)) (hr : rest.length ≤ 4 := by exact Nat.le_of_ble_eq_true rfl) : Ex g mL_law_ 862 L (a2 :: a1 :: vR x :: rest) h u Q := Ex.callV (av := [a1, a2]) (r := (RX10, TX10, 27)) rfl mX10_length__ok rfl lkL_163 imX10_length_ seX10_length_ rfl hx (by decide) hu.1 hu.2 hr (by decide +kernel) ev (fun _ _ k => k) (fun _ _ z => z)
theorem sL_law__868 {g : Gp} {L rest : List AV} {h : AH} {u : Nat × Nat} {Q : PQ} {x : Nat}  (hu : u.1 + 0 ≤ 20000 ∧ u.2 + 0 ≤ 900000) (hx : zK h x = (1, 10)) (ev : Ev g mX10_thrown (vR x :: []) h (cont g mL_law_ 871 L rest (u.1 + 0, u.2 + 0) Q)) (hr : rest.length ≤ 4 := by exact Nat.le_of_ble_eq_true rfl) : Ex g mL_law_ 868 L (vR x :: rest) h u Q := Ex.callV (av := []) (r := (RX10, TX10, 27)) rfl mX10_thrown_ok rfl lkL_122 imX10_thrown seX10_thrown rfl hx (by decide) hu.1 hu.2 hr (by decide +kernel) ev (fun _ _ k => k) (fun _ _ z => z)
def bL_law__847 : List OP := [(.istore 6, 2, (6, 0, 0), vU), (.aload_n 2, 1, (2, 0, 0), vU)]
theorem oL_law__847 : okAt mL_law_ bL_law__847 847 = true := by decide +kernel
theorem rL_law__847 {g : Gp} {Q : PQ} {L st : List AV} {h : AH} {u : Nat × Nat} (hr : run mL_law_ Q (fun pc L st h u => Ex g mL_law_ pc L st h u Q) bL_law__847 847 L st h u) : Ex g mL_law_ 847 L st h u Q := run_ok (M := mL_law_) cfL_ok (fun _ _ _ _ _ k => k) _ _ _ _ _ _ oL_law__847 hr
def bL_law__865 : List OP := [(.istore 7, 2, (7, 0, 0), vU), (.aload_n 2, 1, (2, 0, 0), vU)]
theorem oL_law__865 : okAt mL_law_ bL_law__865 865 = true := by decide +kernel
theorem rL_law__865 {g : Gp} {Q : PQ} {L st : List AV} {h : AH} {u : Nat × Nat} (hr : run mL_law_ Q (fun pc L st h u => Ex g mL_law_ pc L st h u Q) bL_law__865 865 L st h u) : Ex g mL_law_ 865 L st h u Q := run_ok (M := mL_law_) cfL_ok (fun _ _ _ _ _ k => k) _ _ _ _ _ _ oL_law__865 hr
def bL_law__871 : List OP := [(.iload 6, 2, (6, 0, 0), vU), (.if_icmp .eq 5, 3, (878, 0, 0), vU), (.iconst 0, 1, (0, 0, 0), vI 0), (.ireturn, 1, (0, 0, 0), vU)]
theorem oL_law__871 : okAt mL_law_ bL_law__871 871 = true := by decide +kernel
theorem rL_law__871 {g : Gp} {Q : PQ} {L st : List AV} {h : AH} {u : Nat × Nat} (hr : run mL_law_ Q (fun pc L st h u => Ex g mL_law_ pc L st h u Q) bL_law__871 871 L st h u) : Ex g mL_law_ 871 L st h u Q := run_ok (M := mL_law_) cfL_ok (fun _ _ _ _ _ k => k) _ _ _ _ _ _ oL_law__871 hr
def bL_law__878 : List OP := [(.iload 6, 2, (6, 0, 0), vU), (.ifCond .ne 15, 3, (895, 0, 0), vU), (.aload_n 3, 1, (3, 0, 0), vU), (.iconst 0, 1, (0, 0, 0), vI 0), (.laload, 1, (0, 0, 0), vU), (.iload 7, 2, (7, 0, 0), vU), (.i2l, 1, (0, 0, 0), vU), (.lcmp, 1, (0, 0, 0), vU), (.ifCond .eq 5, 3, (895, 0, 0), vU), (.iconst 0, 1, (0, 0, 0), vI 0), (.ireturn, 1, (0, 0, 0), vU)]
theorem oL_law__878 : okAt mL_law_ bL_law__878 878 = true := by decide +kernel
theorem rL_law__878 {g : Gp} {Q : PQ} {L st : List AV} {h : AH} {u : Nat × Nat} (hr : run mL_law_ Q (fun pc L st h u => Ex g mL_law_ pc L st h u Q) bL_law__878 878 L st h u) : Ex g mL_law_ 878 L st h u Q := run_ok (M := mL_law_) cfL_ok (fun _ _ _ _ _ k => k) _ _ _ _ _ _ oL_law__878 hr
def bL_law__895 : List OP := [(.goto 1441, 3, (2336, 0, 0), vU)]
theorem oL_law__895 : okAt mL_law_ bL_law__895 895 = true := by decide +kernel
theorem rL_law__895 {g : Gp} {Q : PQ} {L st : List AV} {h : AH} {u : Nat × Nat} (hr : run mL_law_ Q (fun pc L st h u => Ex g mL_law_ pc L st h u Q) bL_law__895 895 L st h u) : Ex g mL_law_ 895 L st h u Q := run_ok (M := mL_law_) cfL_ok (fun _ _ _ _ _ k => k) _ _ _ _ _ _ oL_law__895 hr
theorem t_length {g : Gp} {Q : PQ} {h : AH} {u : Nat × Nat} {i : Nat} {c v : Int32} (ms : ModS h) (kd : Kd h) (e : zI h 99 0 = c) (hz : c = 0 → zL h 122 0 = v.toInt64) (hu : u.1 ≤ 20000 ∧ u.2 ≤ 900000) (K : Ex g mL_law_ 2336 (LW9 i) [] h u Q) : Ex g mL_law_ 865 [vR 1, vR 4, vR 99, vR 122, vR 123, vI (nI i), vI c, vU, vU] [vI v] h u Q := by
  refine rL_law__865 ?_
  simp only [bL_law__865, run, Nat.reduceAdd, lg, st1, st2, lkill, lset, fvv, sfv, kind3, cat1, retI, retA, List.length_cons, List.length_nil, true_and, and_true, or_true, true_or, qL_law_]
  refine sL_law__868 hu ms.1 (e_thrown ms ?_)
  simp only [cont, Option.toList, List.cons_append, List.nil_append]
  rw [e]
  refine rL_law__871 ?_
  simp only [bL_law__871, run, Nat.reduceAdd, lg, st1, st2, lkill, lset, fvv, sfv, kind3, cat1, retI, retA, List.length_cons, List.length_nil, true_and, and_true, or_true, true_or, qL_law_, not_true_eq_false, not_false_eq_true, false_implies, true_and, and_true, tti, not_true_eq_false, false_implies]
  by_cases c0 : c = 0
  · refine rL_law__878 ?_
    simp only [bL_law__878, run, Nat.reduceAdd, lg, st1, st2, lkill, lset, fvv, sfv, kind3, cat1, retI, retA, List.length_cons, List.length_nil, true_and, and_true, or_true, true_or, qL_law_, c0, kd.1, hz c0, lcmp_self, kL, kI, kD, kR, rL, rI, rD, iL, iD, iR, lI, lD, lR, show (Int32.toNatClampNeg 0) = 0 from rfl, not_true_eq_false, not_false_eq_true, false_implies, true_and, and_true, tti, not_true_eq_false, false_implies]
    refine ⟨vin01, ?_⟩
    refine rL_law__895 ?_
    simp only [bL_law__895, run, Nat.reduceAdd, lg, st1, st2, lkill, lset, fvv, sfv, kind3, cat1, retI, retA, List.length_cons, List.length_nil, true_and, and_true, or_true, true_or, qL_law_]
    exact Ex.fgt9 K
  · refine rL_law__878 ?_
    simp only [bL_law__878, run, Nat.reduceAdd, lg, st1, st2, lkill, lset, fvv, sfv, kind3, cat1, retI, retA, List.length_cons, List.length_nil, true_and, and_true, or_true, true_or, qL_law_, c0, not_true_eq_false, not_false_eq_true, false_implies, true_and, and_true, tti, not_false_eq_true, true_implies, false_implies]
    refine rL_law__895 ?_
    simp only [bL_law__895, run, Nat.reduceAdd, lg, st1, st2, lkill, lset, fvv, sfv, kind3, cat1, retI, retA, List.length_cons, List.length_nil, true_and, and_true, or_true, true_or, qL_law_]
    exact Ex.fgt9 K
theorem sL_law__918 {g : Gp} {L rest : List AV} {h : AH} {u : Nat × Nat} {Q : PQ} {a1 a2 a3 a4 a5 : AV} (hu : u.1 + 2 ≤ 20000 ∧ u.2 + 12 ≤ 900000) (ev : Ev g mL_soundAt [a1, a2, a3, a4, a5] h (cont g mL_law_ 921 L rest (u.1 + 2, u.2 + 12) Q)) (hr : rest.length ≤ 4 := by exact Nat.le_of_ble_eq_true rfl) : Ex g mL_law_ 918 L (a5 :: a4 :: a3 :: a2 :: a1 :: rest) h u Q := Ex.callSW (av := [a1, a2, a3, a4, a5]) rfl mL_soundAt_ok rfl (by decide) lkL_164 smL_soundAt (by decide) hu.1 hu.2 hr (by decide +kernel) ev (fun _ _ k => k) (fun _ _ z => z)
theorem sL_law__942 {g : Gp} {L rest : List AV} {h : AH} {u : Nat × Nat} {Q : PQ} {x : Nat} {a1 a2 a3 : AV} (hu : u.1 + 0 ≤ 20000 ∧ u.2 + 0 ≤ 900000) (hx : zK h x = (1, 10)) (ev : Ev g mX10_soundAt (vR x :: [a1, a2, a3]) h (cont g mL_law_ 945 L rest (u.1 + 0, u.2 + 0) Q)) (hr : rest.length ≤ 4 := by exact Nat.le_of_ble_eq_true rfl) : Ex g mL_law_ 942 L (a3 :: a2 :: a1 :: vR x :: rest) h u Q := Ex.callV (av := [a1, a2, a3]) (r := (RX10, TX10, 27)) rfl mX10_soundAt_ok rfl lkL_167 imX10_soundAt seX10_soundAt rfl hx (by decide) hu.1 hu.2 hr (by decide +kernel) ev (fun _ _ k => k) (fun _ _ z => z)
theorem sL_law__948 {g : Gp} {L rest : List AV} {h : AH} {u : Nat × Nat} {Q : PQ} {x : Nat}  (hu : u.1 + 0 ≤ 20000 ∧ u.2 + 0 ≤ 900000) (hx : zK h x = (1, 10)) (ev : Ev g mX10_thrown (vR x :: []) h (cont g mL_law_ 951 L rest (u.1 + 0, u.2 + 0) Q)) (hr : rest.length ≤ 4 := by exact Nat.le_of_ble_eq_true rfl) : Ex g mL_law_ 948 L (vR x :: rest) h u Q := Ex.callV (av := []) (r := (RX10, TX10, 27)) rfl mX10_thrown_ok rfl lkL_122 imX10_thrown seX10_thrown rfl hx (by decide) hu.1 hu.2 hr (by decide +kernel) ev (fun _ _ k => k) (fun _ _ z => z)
def bL_law__921 : List OP := [(.istore 6, 2, (6, 0, 0), vU), (.aload_n 2, 1, (2, 0, 0), vU)]
theorem oL_law__921 : okAt mL_law_ bL_law__921 921 = true := by decide +kernel
theorem rL_law__921 {g : Gp} {Q : PQ} {L st : List AV} {h : AH} {u : Nat × Nat} (hr : run mL_law_ Q (fun pc L st h u => Ex g mL_law_ pc L st h u Q) bL_law__921 921 L st h u) : Ex g mL_law_ 921 L st h u Q := run_ok (M := mL_law_) cfL_ok (fun _ _ _ _ _ k => k) _ _ _ _ _ _ oL_law__921 hr
def bL_law__945 : List OP := [(.istore 7, 2, (7, 0, 0), vU), (.aload_n 2, 1, (2, 0, 0), vU)]
theorem oL_law__945 : okAt mL_law_ bL_law__945 945 = true := by decide +kernel
theorem rL_law__945 {g : Gp} {Q : PQ} {L st : List AV} {h : AH} {u : Nat × Nat} (hr : run mL_law_ Q (fun pc L st h u => Ex g mL_law_ pc L st h u Q) bL_law__945 945 L st h u) : Ex g mL_law_ 945 L st h u Q := run_ok (M := mL_law_) cfL_ok (fun _ _ _ _ _ k => k) _ _ _ _ _ _ oL_law__945 hr
def bL_law__951 : List OP := [(.iload 6, 2, (6, 0, 0), vU), (.if_icmp .eq 5, 3, (958, 0, 0), vU), (.iconst 0, 1, (0, 0, 0), vI 0), (.ireturn, 1, (0, 0, 0), vU)]
theorem oL_law__951 : okAt mL_law_ bL_law__951 951 = true := by decide +kernel
theorem rL_law__951 {g : Gp} {Q : PQ} {L st : List AV} {h : AH} {u : Nat × Nat} (hr : run mL_law_ Q (fun pc L st h u => Ex g mL_law_ pc L st h u Q) bL_law__951 951 L st h u) : Ex g mL_law_ 951 L st h u Q := run_ok (M := mL_law_) cfL_ok (fun _ _ _ _ _ k => k) _ _ _ _ _ _ oL_law__951 hr
def bL_law__958 : List OP := [(.iload 6, 2, (6, 0, 0), vU), (.ifCond .ne 15, 3, (975, 0, 0), vU), (.aload_n 3, 1, (3, 0, 0), vU), (.iconst 0, 1, (0, 0, 0), vI 0), (.laload, 1, (0, 0, 0), vU), (.iload 7, 2, (7, 0, 0), vU), (.i2l, 1, (0, 0, 0), vU), (.lcmp, 1, (0, 0, 0), vU), (.ifCond .eq 5, 3, (975, 0, 0), vU), (.iconst 0, 1, (0, 0, 0), vI 0), (.ireturn, 1, (0, 0, 0), vU)]
theorem oL_law__958 : okAt mL_law_ bL_law__958 958 = true := by decide +kernel
theorem rL_law__958 {g : Gp} {Q : PQ} {L st : List AV} {h : AH} {u : Nat × Nat} (hr : run mL_law_ Q (fun pc L st h u => Ex g mL_law_ pc L st h u Q) bL_law__958 958 L st h u) : Ex g mL_law_ 958 L st h u Q := run_ok (M := mL_law_) cfL_ok (fun _ _ _ _ _ k => k) _ _ _ _ _ _ oL_law__958 hr
def bL_law__975 : List OP := [(.goto 1361, 3, (2336, 0, 0), vU)]
theorem oL_law__975 : okAt mL_law_ bL_law__975 975 = true := by decide +kernel
theorem rL_law__975 {g : Gp} {Q : PQ} {L st : List AV} {h : AH} {u : Nat × Nat} (hr : run mL_law_ Q (fun pc L st h u => Ex g mL_law_ pc L st h u Q) bL_law__975 975 L st h u) : Ex g mL_law_ 975 L st h u Q := run_ok (M := mL_law_) cfL_ok (fun _ _ _ _ _ k => k) _ _ _ _ _ _ oL_law__975 hr
theorem t_soundAt {g : Gp} {Q : PQ} {h : AH} {u : Nat × Nat} {i : Nat} {c v : Int32} (ms : ModS h) (kd : Kd h) (e : zI h 99 0 = c) (hz : c = 0 → zL h 122 0 = v.toInt64) (hu : u.1 ≤ 20000 ∧ u.2 ≤ 900000) (K : Ex g mL_law_ 2336 (LW9 i) [] h u Q) : Ex g mL_law_ 945 [vR 1, vR 4, vR 99, vR 122, vR 123, vI (nI i), vI c, vU, vU] [vI v] h u Q := by
  refine rL_law__945 ?_
  simp only [bL_law__945, run, Nat.reduceAdd, lg, st1, st2, lkill, lset, fvv, sfv, kind3, cat1, retI, retA, List.length_cons, List.length_nil, true_and, and_true, or_true, true_or, qL_law_]
  refine sL_law__948 hu ms.1 (e_thrown ms ?_)
  simp only [cont, Option.toList, List.cons_append, List.nil_append]
  rw [e]
  refine rL_law__951 ?_
  simp only [bL_law__951, run, Nat.reduceAdd, lg, st1, st2, lkill, lset, fvv, sfv, kind3, cat1, retI, retA, List.length_cons, List.length_nil, true_and, and_true, or_true, true_or, qL_law_, not_true_eq_false, not_false_eq_true, false_implies, true_and, and_true, tti, not_true_eq_false, false_implies]
  by_cases c0 : c = 0
  · refine rL_law__958 ?_
    simp only [bL_law__958, run, Nat.reduceAdd, lg, st1, st2, lkill, lset, fvv, sfv, kind3, cat1, retI, retA, List.length_cons, List.length_nil, true_and, and_true, or_true, true_or, qL_law_, c0, kd.1, hz c0, lcmp_self, kL, kI, kD, kR, rL, rI, rD, iL, iD, iR, lI, lD, lR, show (Int32.toNatClampNeg 0) = 0 from rfl, not_true_eq_false, not_false_eq_true, false_implies, true_and, and_true, tti, not_true_eq_false, false_implies]
    refine ⟨vin01, ?_⟩
    refine rL_law__975 ?_
    simp only [bL_law__975, run, Nat.reduceAdd, lg, st1, st2, lkill, lset, fvv, sfv, kind3, cat1, retI, retA, List.length_cons, List.length_nil, true_and, and_true, or_true, true_or, qL_law_]
    exact Ex.fgt9 K
  · refine rL_law__958 ?_
    simp only [bL_law__958, run, Nat.reduceAdd, lg, st1, st2, lkill, lset, fvv, sfv, kind3, cat1, retI, retA, List.length_cons, List.length_nil, true_and, and_true, or_true, true_or, qL_law_, c0, not_true_eq_false, not_false_eq_true, false_implies, true_and, and_true, tti, not_false_eq_true, true_implies, false_implies]
    refine rL_law__975 ?_
    simp only [bL_law__975, run, Nat.reduceAdd, lg, st1, st2, lkill, lset, fvv, sfv, kind3, cat1, retI, retA, List.length_cons, List.length_nil, true_and, and_true, or_true, true_or, qL_law_]
    exact Ex.fgt9 K
theorem sL_law__992 {g : Gp} {L rest : List AV} {h : AH} {u : Nat × Nat} {Q : PQ} {a1 a2 a3 a4 : AV} (hu : u.1 + 1 ≤ 20000 ∧ u.2 + 6 ≤ 900000) (ev : Ev g mL_origin [a1, a2, a3, a4] h (cont g mL_law_ 995 L rest (u.1 + 1, u.2 + 6) Q)) (hr : rest.length ≤ 4 := by exact Nat.le_of_ble_eq_true rfl) : Ex g mL_law_ 992 L (a4 :: a3 :: a2 :: a1 :: rest) h u Q := Ex.callSW (av := [a1, a2, a3, a4]) rfl mL_origin_ok rfl (by decide) lkL_168 smL_origin (by decide) hu.1 hu.2 hr (by decide +kernel) ev (fun _ _ k => k) (fun _ _ z => z)
theorem sL_law__1010 {g : Gp} {L rest : List AV} {h : AH} {u : Nat × Nat} {Q : PQ} {x : Nat} {a1 a2 : AV} (hu : u.1 + 0 ≤ 20000 ∧ u.2 + 0 ≤ 900000) (hx : zK h x = (1, 10)) (ev : Ev g mX10_origin (vR x :: [a1, a2]) h (cont g mL_law_ 1013 L rest (u.1 + 0, u.2 + 0) Q)) (hr : rest.length ≤ 4 := by exact Nat.le_of_ble_eq_true rfl) : Ex g mL_law_ 1010 L (a2 :: a1 :: vR x :: rest) h u Q := Ex.callV (av := [a1, a2]) (r := (RX10, TX10, 27)) rfl mX10_origin_ok rfl lkL_170 imX10_origin seX10_origin rfl hx (by decide) hu.1 hu.2 hr (by decide +kernel) ev (fun _ _ k => k) (fun _ _ z => z)
theorem sL_law__1016 {g : Gp} {L rest : List AV} {h : AH} {u : Nat × Nat} {Q : PQ} {x : Nat}  (hu : u.1 + 0 ≤ 20000 ∧ u.2 + 0 ≤ 900000) (hx : zK h x = (1, 10)) (ev : Ev g mX10_thrown (vR x :: []) h (cont g mL_law_ 1019 L rest (u.1 + 0, u.2 + 0) Q)) (hr : rest.length ≤ 4 := by exact Nat.le_of_ble_eq_true rfl) : Ex g mL_law_ 1016 L (vR x :: rest) h u Q := Ex.callV (av := []) (r := (RX10, TX10, 27)) rfl mX10_thrown_ok rfl lkL_122 imX10_thrown seX10_thrown rfl hx (by decide) hu.1 hu.2 hr (by decide +kernel) ev (fun _ _ k => k) (fun _ _ z => z)
def bL_law__995 : List OP := [(.istore 6, 2, (6, 0, 0), vU), (.aload_n 2, 1, (2, 0, 0), vU)]
theorem oL_law__995 : okAt mL_law_ bL_law__995 995 = true := by decide +kernel
theorem rL_law__995 {g : Gp} {Q : PQ} {L st : List AV} {h : AH} {u : Nat × Nat} (hr : run mL_law_ Q (fun pc L st h u => Ex g mL_law_ pc L st h u Q) bL_law__995 995 L st h u) : Ex g mL_law_ 995 L st h u Q := run_ok (M := mL_law_) cfL_ok (fun _ _ _ _ _ k => k) _ _ _ _ _ _ oL_law__995 hr
def bL_law__1013 : List OP := [(.istore 7, 2, (7, 0, 0), vU), (.aload_n 2, 1, (2, 0, 0), vU)]
theorem oL_law__1013 : okAt mL_law_ bL_law__1013 1013 = true := by decide +kernel
theorem rL_law__1013 {g : Gp} {Q : PQ} {L st : List AV} {h : AH} {u : Nat × Nat} (hr : run mL_law_ Q (fun pc L st h u => Ex g mL_law_ pc L st h u Q) bL_law__1013 1013 L st h u) : Ex g mL_law_ 1013 L st h u Q := run_ok (M := mL_law_) cfL_ok (fun _ _ _ _ _ k => k) _ _ _ _ _ _ oL_law__1013 hr
def bL_law__1019 : List OP := [(.iload 6, 2, (6, 0, 0), vU), (.if_icmp .eq 5, 3, (1026, 0, 0), vU), (.iconst 0, 1, (0, 0, 0), vI 0), (.ireturn, 1, (0, 0, 0), vU)]
theorem oL_law__1019 : okAt mL_law_ bL_law__1019 1019 = true := by decide +kernel
theorem rL_law__1019 {g : Gp} {Q : PQ} {L st : List AV} {h : AH} {u : Nat × Nat} (hr : run mL_law_ Q (fun pc L st h u => Ex g mL_law_ pc L st h u Q) bL_law__1019 1019 L st h u) : Ex g mL_law_ 1019 L st h u Q := run_ok (M := mL_law_) cfL_ok (fun _ _ _ _ _ k => k) _ _ _ _ _ _ oL_law__1019 hr
def bL_law__1026 : List OP := [(.iload 6, 2, (6, 0, 0), vU), (.ifCond .ne 15, 3, (1043, 0, 0), vU), (.aload_n 3, 1, (3, 0, 0), vU), (.iconst 0, 1, (0, 0, 0), vI 0), (.laload, 1, (0, 0, 0), vU), (.iload 7, 2, (7, 0, 0), vU), (.i2l, 1, (0, 0, 0), vU), (.lcmp, 1, (0, 0, 0), vU), (.ifCond .eq 5, 3, (1043, 0, 0), vU), (.iconst 0, 1, (0, 0, 0), vI 0), (.ireturn, 1, (0, 0, 0), vU)]
theorem oL_law__1026 : okAt mL_law_ bL_law__1026 1026 = true := by decide +kernel
theorem rL_law__1026 {g : Gp} {Q : PQ} {L st : List AV} {h : AH} {u : Nat × Nat} (hr : run mL_law_ Q (fun pc L st h u => Ex g mL_law_ pc L st h u Q) bL_law__1026 1026 L st h u) : Ex g mL_law_ 1026 L st h u Q := run_ok (M := mL_law_) cfL_ok (fun _ _ _ _ _ k => k) _ _ _ _ _ _ oL_law__1026 hr
def bL_law__1043 : List OP := [(.goto 1293, 3, (2336, 0, 0), vU)]
theorem oL_law__1043 : okAt mL_law_ bL_law__1043 1043 = true := by decide +kernel
theorem rL_law__1043 {g : Gp} {Q : PQ} {L st : List AV} {h : AH} {u : Nat × Nat} (hr : run mL_law_ Q (fun pc L st h u => Ex g mL_law_ pc L st h u Q) bL_law__1043 1043 L st h u) : Ex g mL_law_ 1043 L st h u Q := run_ok (M := mL_law_) cfL_ok (fun _ _ _ _ _ k => k) _ _ _ _ _ _ oL_law__1043 hr
theorem t_origin {g : Gp} {Q : PQ} {h : AH} {u : Nat × Nat} {i : Nat} {c v : Int32} (ms : ModS h) (kd : Kd h) (e : zI h 99 0 = c) (hz : c = 0 → zL h 122 0 = v.toInt64) (hu : u.1 ≤ 20000 ∧ u.2 ≤ 900000) (K : Ex g mL_law_ 2336 (LW9 i) [] h u Q) : Ex g mL_law_ 1013 [vR 1, vR 4, vR 99, vR 122, vR 123, vI (nI i), vI c, vU, vU] [vI v] h u Q := by
  refine rL_law__1013 ?_
  simp only [bL_law__1013, run, Nat.reduceAdd, lg, st1, st2, lkill, lset, fvv, sfv, kind3, cat1, retI, retA, List.length_cons, List.length_nil, true_and, and_true, or_true, true_or, qL_law_]
  refine sL_law__1016 hu ms.1 (e_thrown ms ?_)
  simp only [cont, Option.toList, List.cons_append, List.nil_append]
  rw [e]
  refine rL_law__1019 ?_
  simp only [bL_law__1019, run, Nat.reduceAdd, lg, st1, st2, lkill, lset, fvv, sfv, kind3, cat1, retI, retA, List.length_cons, List.length_nil, true_and, and_true, or_true, true_or, qL_law_, not_true_eq_false, not_false_eq_true, false_implies, true_and, and_true, tti, not_true_eq_false, false_implies]
  by_cases c0 : c = 0
  · refine rL_law__1026 ?_
    simp only [bL_law__1026, run, Nat.reduceAdd, lg, st1, st2, lkill, lset, fvv, sfv, kind3, cat1, retI, retA, List.length_cons, List.length_nil, true_and, and_true, or_true, true_or, qL_law_, c0, kd.1, hz c0, lcmp_self, kL, kI, kD, kR, rL, rI, rD, iL, iD, iR, lI, lD, lR, show (Int32.toNatClampNeg 0) = 0 from rfl, not_true_eq_false, not_false_eq_true, false_implies, true_and, and_true, tti, not_true_eq_false, false_implies]
    refine ⟨vin01, ?_⟩
    refine rL_law__1043 ?_
    simp only [bL_law__1043, run, Nat.reduceAdd, lg, st1, st2, lkill, lset, fvv, sfv, kind3, cat1, retI, retA, List.length_cons, List.length_nil, true_and, and_true, or_true, true_or, qL_law_]
    exact Ex.fgt9 K
  · refine rL_law__1026 ?_
    simp only [bL_law__1026, run, Nat.reduceAdd, lg, st1, st2, lkill, lset, fvv, sfv, kind3, cat1, retI, retA, List.length_cons, List.length_nil, true_and, and_true, or_true, true_or, qL_law_, c0, not_true_eq_false, not_false_eq_true, false_implies, true_and, and_true, tti, not_false_eq_true, true_implies, false_implies]
    refine rL_law__1043 ?_
    simp only [bL_law__1043, run, Nat.reduceAdd, lg, st1, st2, lkill, lset, fvv, sfv, kind3, cat1, retI, retA, List.length_cons, List.length_nil, true_and, and_true, or_true, true_or, qL_law_]
    exact Ex.fgt9 K
theorem sL_law__1060 {g : Gp} {L rest : List AV} {h : AH} {u : Nat × Nat} {Q : PQ} {a1 a2 a3 a4 : AV} (hu : u.1 + 1 ≤ 20000 ∧ u.2 + 6 ≤ 900000) (ev : Ev g mL_changedBy [a1, a2, a3, a4] h (cont g mL_law_ 1063 L rest (u.1 + 1, u.2 + 6) Q)) (hr : rest.length ≤ 4 := by exact Nat.le_of_ble_eq_true rfl) : Ex g mL_law_ 1060 L (a4 :: a3 :: a2 :: a1 :: rest) h u Q := Ex.callSW (av := [a1, a2, a3, a4]) rfl mL_changedBy_ok rfl (by decide) lkL_171 smL_changedBy (by decide) hu.1 hu.2 hr (by decide +kernel) ev (fun _ _ k => k) (fun _ _ z => z)
theorem sL_law__1078 {g : Gp} {L rest : List AV} {h : AH} {u : Nat × Nat} {Q : PQ} {x : Nat} {a1 a2 : AV} (hu : u.1 + 0 ≤ 20000 ∧ u.2 + 0 ≤ 900000) (hx : zK h x = (1, 10)) (ev : Ev g mX10_changedBy (vR x :: [a1, a2]) h (cont g mL_law_ 1081 L rest (u.1 + 0, u.2 + 0) Q)) (hr : rest.length ≤ 4 := by exact Nat.le_of_ble_eq_true rfl) : Ex g mL_law_ 1078 L (a2 :: a1 :: vR x :: rest) h u Q := Ex.callV (av := [a1, a2]) (r := (RX10, TX10, 27)) rfl mX10_changedBy_ok rfl lkL_173 imX10_changedBy seX10_changedBy rfl hx (by decide) hu.1 hu.2 hr (by decide +kernel) ev (fun _ _ k => k) (fun _ _ z => z)
theorem sL_law__1084 {g : Gp} {L rest : List AV} {h : AH} {u : Nat × Nat} {Q : PQ} {x : Nat}  (hu : u.1 + 0 ≤ 20000 ∧ u.2 + 0 ≤ 900000) (hx : zK h x = (1, 10)) (ev : Ev g mX10_thrown (vR x :: []) h (cont g mL_law_ 1087 L rest (u.1 + 0, u.2 + 0) Q)) (hr : rest.length ≤ 4 := by exact Nat.le_of_ble_eq_true rfl) : Ex g mL_law_ 1084 L (vR x :: rest) h u Q := Ex.callV (av := []) (r := (RX10, TX10, 27)) rfl mX10_thrown_ok rfl lkL_122 imX10_thrown seX10_thrown rfl hx (by decide) hu.1 hu.2 hr (by decide +kernel) ev (fun _ _ k => k) (fun _ _ z => z)
def bL_law__1063 : List OP := [(.istore 6, 2, (6, 0, 0), vU), (.aload_n 2, 1, (2, 0, 0), vU)]
theorem oL_law__1063 : okAt mL_law_ bL_law__1063 1063 = true := by decide +kernel
theorem rL_law__1063 {g : Gp} {Q : PQ} {L st : List AV} {h : AH} {u : Nat × Nat} (hr : run mL_law_ Q (fun pc L st h u => Ex g mL_law_ pc L st h u Q) bL_law__1063 1063 L st h u) : Ex g mL_law_ 1063 L st h u Q := run_ok (M := mL_law_) cfL_ok (fun _ _ _ _ _ k => k) _ _ _ _ _ _ oL_law__1063 hr
def bL_law__1081 : List OP := [(.istore 7, 2, (7, 0, 0), vU), (.aload_n 2, 1, (2, 0, 0), vU)]
theorem oL_law__1081 : okAt mL_law_ bL_law__1081 1081 = true := by decide +kernel
theorem rL_law__1081 {g : Gp} {Q : PQ} {L st : List AV} {h : AH} {u : Nat × Nat} (hr : run mL_law_ Q (fun pc L st h u => Ex g mL_law_ pc L st h u Q) bL_law__1081 1081 L st h u) : Ex g mL_law_ 1081 L st h u Q := run_ok (M := mL_law_) cfL_ok (fun _ _ _ _ _ k => k) _ _ _ _ _ _ oL_law__1081 hr
def bL_law__1087 : List OP := [(.iload 6, 2, (6, 0, 0), vU), (.if_icmp .eq 5, 3, (1094, 0, 0), vU), (.iconst 0, 1, (0, 0, 0), vI 0), (.ireturn, 1, (0, 0, 0), vU)]
theorem oL_law__1087 : okAt mL_law_ bL_law__1087 1087 = true := by decide +kernel
theorem rL_law__1087 {g : Gp} {Q : PQ} {L st : List AV} {h : AH} {u : Nat × Nat} (hr : run mL_law_ Q (fun pc L st h u => Ex g mL_law_ pc L st h u Q) bL_law__1087 1087 L st h u) : Ex g mL_law_ 1087 L st h u Q := run_ok (M := mL_law_) cfL_ok (fun _ _ _ _ _ k => k) _ _ _ _ _ _ oL_law__1087 hr
def bL_law__1094 : List OP := [(.iload 6, 2, (6, 0, 0), vU), (.ifCond .ne 15, 3, (1111, 0, 0), vU), (.aload_n 3, 1, (3, 0, 0), vU), (.iconst 0, 1, (0, 0, 0), vI 0), (.laload, 1, (0, 0, 0), vU), (.iload 7, 2, (7, 0, 0), vU), (.i2l, 1, (0, 0, 0), vU), (.lcmp, 1, (0, 0, 0), vU), (.ifCond .eq 5, 3, (1111, 0, 0), vU), (.iconst 0, 1, (0, 0, 0), vI 0), (.ireturn, 1, (0, 0, 0), vU)]
theorem oL_law__1094 : okAt mL_law_ bL_law__1094 1094 = true := by decide +kernel
theorem rL_law__1094 {g : Gp} {Q : PQ} {L st : List AV} {h : AH} {u : Nat × Nat} (hr : run mL_law_ Q (fun pc L st h u => Ex g mL_law_ pc L st h u Q) bL_law__1094 1094 L st h u) : Ex g mL_law_ 1094 L st h u Q := run_ok (M := mL_law_) cfL_ok (fun _ _ _ _ _ k => k) _ _ _ _ _ _ oL_law__1094 hr
def bL_law__1111 : List OP := [(.goto 1225, 3, (2336, 0, 0), vU)]
theorem oL_law__1111 : okAt mL_law_ bL_law__1111 1111 = true := by decide +kernel
theorem rL_law__1111 {g : Gp} {Q : PQ} {L st : List AV} {h : AH} {u : Nat × Nat} (hr : run mL_law_ Q (fun pc L st h u => Ex g mL_law_ pc L st h u Q) bL_law__1111 1111 L st h u) : Ex g mL_law_ 1111 L st h u Q := run_ok (M := mL_law_) cfL_ok (fun _ _ _ _ _ k => k) _ _ _ _ _ _ oL_law__1111 hr
theorem t_changedBy {g : Gp} {Q : PQ} {h : AH} {u : Nat × Nat} {i : Nat} {c v : Int32} (ms : ModS h) (kd : Kd h) (e : zI h 99 0 = c) (hz : c = 0 → zL h 122 0 = v.toInt64) (hu : u.1 ≤ 20000 ∧ u.2 ≤ 900000) (K : Ex g mL_law_ 2336 (LW9 i) [] h u Q) : Ex g mL_law_ 1081 [vR 1, vR 4, vR 99, vR 122, vR 123, vI (nI i), vI c, vU, vU] [vI v] h u Q := by
  refine rL_law__1081 ?_
  simp only [bL_law__1081, run, Nat.reduceAdd, lg, st1, st2, lkill, lset, fvv, sfv, kind3, cat1, retI, retA, List.length_cons, List.length_nil, true_and, and_true, or_true, true_or, qL_law_]
  refine sL_law__1084 hu ms.1 (e_thrown ms ?_)
  simp only [cont, Option.toList, List.cons_append, List.nil_append]
  rw [e]
  refine rL_law__1087 ?_
  simp only [bL_law__1087, run, Nat.reduceAdd, lg, st1, st2, lkill, lset, fvv, sfv, kind3, cat1, retI, retA, List.length_cons, List.length_nil, true_and, and_true, or_true, true_or, qL_law_, not_true_eq_false, not_false_eq_true, false_implies, true_and, and_true, tti, not_true_eq_false, false_implies]
  by_cases c0 : c = 0
  · refine rL_law__1094 ?_
    simp only [bL_law__1094, run, Nat.reduceAdd, lg, st1, st2, lkill, lset, fvv, sfv, kind3, cat1, retI, retA, List.length_cons, List.length_nil, true_and, and_true, or_true, true_or, qL_law_, c0, kd.1, hz c0, lcmp_self, kL, kI, kD, kR, rL, rI, rD, iL, iD, iR, lI, lD, lR, show (Int32.toNatClampNeg 0) = 0 from rfl, not_true_eq_false, not_false_eq_true, false_implies, true_and, and_true, tti, not_true_eq_false, false_implies]
    refine ⟨vin01, ?_⟩
    refine rL_law__1111 ?_
    simp only [bL_law__1111, run, Nat.reduceAdd, lg, st1, st2, lkill, lset, fvv, sfv, kind3, cat1, retI, retA, List.length_cons, List.length_nil, true_and, and_true, or_true, true_or, qL_law_]
    exact Ex.fgt9 K
  · refine rL_law__1094 ?_
    simp only [bL_law__1094, run, Nat.reduceAdd, lg, st1, st2, lkill, lset, fvv, sfv, kind3, cat1, retI, retA, List.length_cons, List.length_nil, true_and, and_true, or_true, true_or, qL_law_, c0, not_true_eq_false, not_false_eq_true, false_implies, true_and, and_true, tti, not_false_eq_true, true_implies, false_implies]
    refine rL_law__1111 ?_
    simp only [bL_law__1111, run, Nat.reduceAdd, lg, st1, st2, lkill, lset, fvv, sfv, kind3, cat1, retI, retA, List.length_cons, List.length_nil, true_and, and_true, or_true, true_or, qL_law_]
    exact Ex.fgt9 K
theorem sL_law__1122 {g : Gp} {L rest : List AV} {h : AH} {u : Nat × Nat} {Q : PQ} {a1 a2 a3 : AV} (hu : u.1 + 1 ≤ 20000 ∧ u.2 + 6 ≤ 900000) (ev : Ev g mL_wealth [a1, a2, a3] h (cont g mL_law_ 1125 L rest (u.1 + 1, u.2 + 6) Q)) (hr : rest.length ≤ 4 := by exact Nat.le_of_ble_eq_true rfl) : Ex g mL_law_ 1122 L (a3 :: a2 :: a1 :: rest) h u Q := Ex.callSW (av := [a1, a2, a3]) rfl mL_wealth_ok rfl (by decide) lkL_174 smL_wealth (by decide) hu.1 hu.2 hr (by decide +kernel) ev (fun _ _ k => k) (fun _ _ z => z)
theorem sL_law__1134 {g : Gp} {L rest : List AV} {h : AH} {u : Nat × Nat} {Q : PQ} {x : Nat} {a1 : AV} (hu : u.1 + 0 ≤ 20000 ∧ u.2 + 0 ≤ 900000) (hx : zK h x = (1, 10)) (ev : Ev g mX10_wealth (vR x :: [a1]) h (cont g mL_law_ 1137 L rest (u.1 + 0, u.2 + 0) Q)) (hr : rest.length ≤ 4 := by exact Nat.le_of_ble_eq_true rfl) : Ex g mL_law_ 1134 L (a1 :: vR x :: rest) h u Q := Ex.callV (av := [a1]) (r := (RX10, TX10, 27)) rfl mX10_wealth_ok rfl lkL_176 imX10_wealth seX10_wealth rfl hx (by decide) hu.1 hu.2 hr (by decide +kernel) ev (fun _ _ k => k) (fun _ _ z => z)
theorem sL_law__1140 {g : Gp} {L rest : List AV} {h : AH} {u : Nat × Nat} {Q : PQ} {x : Nat}  (hu : u.1 + 0 ≤ 20000 ∧ u.2 + 0 ≤ 900000) (hx : zK h x = (1, 10)) (ev : Ev g mX10_thrown (vR x :: []) h (cont g mL_law_ 1143 L rest (u.1 + 0, u.2 + 0) Q)) (hr : rest.length ≤ 4 := by exact Nat.le_of_ble_eq_true rfl) : Ex g mL_law_ 1140 L (vR x :: rest) h u Q := Ex.callV (av := []) (r := (RX10, TX10, 27)) rfl mX10_thrown_ok rfl lkL_122 imX10_thrown seX10_thrown rfl hx (by decide) hu.1 hu.2 hr (by decide +kernel) ev (fun _ _ k => k) (fun _ _ z => z)
def bL_law__1125 : List OP := [(.istore 6, 2, (6, 0, 0), vU), (.aload_n 2, 1, (2, 0, 0), vU)]
theorem oL_law__1125 : okAt mL_law_ bL_law__1125 1125 = true := by decide +kernel
theorem rL_law__1125 {g : Gp} {Q : PQ} {L st : List AV} {h : AH} {u : Nat × Nat} (hr : run mL_law_ Q (fun pc L st h u => Ex g mL_law_ pc L st h u Q) bL_law__1125 1125 L st h u) : Ex g mL_law_ 1125 L st h u Q := run_ok (M := mL_law_) cfL_ok (fun _ _ _ _ _ k => k) _ _ _ _ _ _ oL_law__1125 hr
def bL_law__1137 : List OP := [(.istore 7, 2, (7, 0, 0), vU), (.aload_n 2, 1, (2, 0, 0), vU)]
theorem oL_law__1137 : okAt mL_law_ bL_law__1137 1137 = true := by decide +kernel
theorem rL_law__1137 {g : Gp} {Q : PQ} {L st : List AV} {h : AH} {u : Nat × Nat} (hr : run mL_law_ Q (fun pc L st h u => Ex g mL_law_ pc L st h u Q) bL_law__1137 1137 L st h u) : Ex g mL_law_ 1137 L st h u Q := run_ok (M := mL_law_) cfL_ok (fun _ _ _ _ _ k => k) _ _ _ _ _ _ oL_law__1137 hr
def bL_law__1143 : List OP := [(.iload 6, 2, (6, 0, 0), vU), (.if_icmp .eq 5, 3, (1150, 0, 0), vU), (.iconst 0, 1, (0, 0, 0), vI 0), (.ireturn, 1, (0, 0, 0), vU)]
theorem oL_law__1143 : okAt mL_law_ bL_law__1143 1143 = true := by decide +kernel
theorem rL_law__1143 {g : Gp} {Q : PQ} {L st : List AV} {h : AH} {u : Nat × Nat} (hr : run mL_law_ Q (fun pc L st h u => Ex g mL_law_ pc L st h u Q) bL_law__1143 1143 L st h u) : Ex g mL_law_ 1143 L st h u Q := run_ok (M := mL_law_) cfL_ok (fun _ _ _ _ _ k => k) _ _ _ _ _ _ oL_law__1143 hr
def bL_law__1150 : List OP := [(.iload 6, 2, (6, 0, 0), vU), (.ifCond .ne 15, 3, (1167, 0, 0), vU), (.aload_n 3, 1, (3, 0, 0), vU), (.iconst 0, 1, (0, 0, 0), vI 0), (.laload, 1, (0, 0, 0), vU), (.iload 7, 2, (7, 0, 0), vU), (.i2l, 1, (0, 0, 0), vU), (.lcmp, 1, (0, 0, 0), vU), (.ifCond .eq 5, 3, (1167, 0, 0), vU), (.iconst 0, 1, (0, 0, 0), vI 0), (.ireturn, 1, (0, 0, 0), vU)]
theorem oL_law__1150 : okAt mL_law_ bL_law__1150 1150 = true := by decide +kernel
theorem rL_law__1150 {g : Gp} {Q : PQ} {L st : List AV} {h : AH} {u : Nat × Nat} (hr : run mL_law_ Q (fun pc L st h u => Ex g mL_law_ pc L st h u Q) bL_law__1150 1150 L st h u) : Ex g mL_law_ 1150 L st h u Q := run_ok (M := mL_law_) cfL_ok (fun _ _ _ _ _ k => k) _ _ _ _ _ _ oL_law__1150 hr
def bL_law__1167 : List OP := [(.goto 1169, 3, (2336, 0, 0), vU)]
theorem oL_law__1167 : okAt mL_law_ bL_law__1167 1167 = true := by decide +kernel
theorem rL_law__1167 {g : Gp} {Q : PQ} {L st : List AV} {h : AH} {u : Nat × Nat} (hr : run mL_law_ Q (fun pc L st h u => Ex g mL_law_ pc L st h u Q) bL_law__1167 1167 L st h u) : Ex g mL_law_ 1167 L st h u Q := run_ok (M := mL_law_) cfL_ok (fun _ _ _ _ _ k => k) _ _ _ _ _ _ oL_law__1167 hr
theorem t_wealth {g : Gp} {Q : PQ} {h : AH} {u : Nat × Nat} {i : Nat} {c v : Int32} (ms : ModS h) (kd : Kd h) (e : zI h 99 0 = c) (hz : c = 0 → zL h 122 0 = v.toInt64) (hu : u.1 ≤ 20000 ∧ u.2 ≤ 900000) (K : Ex g mL_law_ 2336 (LW9 i) [] h u Q) : Ex g mL_law_ 1137 [vR 1, vR 4, vR 99, vR 122, vR 123, vI (nI i), vI c, vU, vU] [vI v] h u Q := by
  refine rL_law__1137 ?_
  simp only [bL_law__1137, run, Nat.reduceAdd, lg, st1, st2, lkill, lset, fvv, sfv, kind3, cat1, retI, retA, List.length_cons, List.length_nil, true_and, and_true, or_true, true_or, qL_law_]
  refine sL_law__1140 hu ms.1 (e_thrown ms ?_)
  simp only [cont, Option.toList, List.cons_append, List.nil_append]
  rw [e]
  refine rL_law__1143 ?_
  simp only [bL_law__1143, run, Nat.reduceAdd, lg, st1, st2, lkill, lset, fvv, sfv, kind3, cat1, retI, retA, List.length_cons, List.length_nil, true_and, and_true, or_true, true_or, qL_law_, not_true_eq_false, not_false_eq_true, false_implies, true_and, and_true, tti, not_true_eq_false, false_implies]
  by_cases c0 : c = 0
  · refine rL_law__1150 ?_
    simp only [bL_law__1150, run, Nat.reduceAdd, lg, st1, st2, lkill, lset, fvv, sfv, kind3, cat1, retI, retA, List.length_cons, List.length_nil, true_and, and_true, or_true, true_or, qL_law_, c0, kd.1, hz c0, lcmp_self, kL, kI, kD, kR, rL, rI, rD, iL, iD, iR, lI, lD, lR, show (Int32.toNatClampNeg 0) = 0 from rfl, not_true_eq_false, not_false_eq_true, false_implies, true_and, and_true, tti, not_true_eq_false, false_implies]
    refine ⟨vin01, ?_⟩
    refine rL_law__1167 ?_
    simp only [bL_law__1167, run, Nat.reduceAdd, lg, st1, st2, lkill, lset, fvv, sfv, kind3, cat1, retI, retA, List.length_cons, List.length_nil, true_and, and_true, or_true, true_or, qL_law_]
    exact Ex.fgt9 K
  · refine rL_law__1150 ?_
    simp only [bL_law__1150, run, Nat.reduceAdd, lg, st1, st2, lkill, lset, fvv, sfv, kind3, cat1, retI, retA, List.length_cons, List.length_nil, true_and, and_true, or_true, true_or, qL_law_, c0, not_true_eq_false, not_false_eq_true, false_implies, true_and, and_true, tti, not_false_eq_true, true_implies, false_implies]
    refine rL_law__1167 ?_
    simp only [bL_law__1167, run, Nat.reduceAdd, lg, st1, st2, lkill, lset, fvv, sfv, kind3, cat1, retI, retA, List.length_cons, List.length_nil, true_and, and_true, or_true, true_or, qL_law_]
    exact Ex.fgt9 K
theorem sL_law__1178 {g : Gp} {L rest : List AV} {h : AH} {u : Nat × Nat} {Q : PQ} {a1 a2 a3 : AV} (hu : u.1 + 1 ≤ 20000 ∧ u.2 + 6 ≤ 900000) (ev : Ev g mL_alike [a1, a2, a3] h (cont g mL_law_ 1181 L rest (u.1 + 1, u.2 + 6) Q)) (hr : rest.length ≤ 4 := by exact Nat.le_of_ble_eq_true rfl) : Ex g mL_law_ 1178 L (a3 :: a2 :: a1 :: rest) h u Q := Ex.callSW (av := [a1, a2, a3]) rfl mL_alike_ok rfl (by decide) lkL_177 smL_alike (by decide) hu.1 hu.2 hr (by decide +kernel) ev (fun _ _ k => k) (fun _ _ z => z)
theorem sL_law__1190 {g : Gp} {L rest : List AV} {h : AH} {u : Nat × Nat} {Q : PQ} {x : Nat} {a1 : AV} (hu : u.1 + 0 ≤ 20000 ∧ u.2 + 0 ≤ 900000) (hx : zK h x = (1, 10)) (ev : Ev g mX10_alike (vR x :: [a1]) h (cont g mL_law_ 1193 L rest (u.1 + 0, u.2 + 0) Q)) (hr : rest.length ≤ 4 := by exact Nat.le_of_ble_eq_true rfl) : Ex g mL_law_ 1190 L (a1 :: vR x :: rest) h u Q := Ex.callV (av := [a1]) (r := (RX10, TX10, 27)) rfl mX10_alike_ok rfl lkL_179 imX10_alike seX10_alike rfl hx (by decide) hu.1 hu.2 hr (by decide +kernel) ev (fun _ _ k => k) (fun _ _ z => z)
theorem sL_law__1196 {g : Gp} {L rest : List AV} {h : AH} {u : Nat × Nat} {Q : PQ} {x : Nat}  (hu : u.1 + 0 ≤ 20000 ∧ u.2 + 0 ≤ 900000) (hx : zK h x = (1, 10)) (ev : Ev g mX10_thrown (vR x :: []) h (cont g mL_law_ 1199 L rest (u.1 + 0, u.2 + 0) Q)) (hr : rest.length ≤ 4 := by exact Nat.le_of_ble_eq_true rfl) : Ex g mL_law_ 1196 L (vR x :: rest) h u Q := Ex.callV (av := []) (r := (RX10, TX10, 27)) rfl mX10_thrown_ok rfl lkL_122 imX10_thrown seX10_thrown rfl hx (by decide) hu.1 hu.2 hr (by decide +kernel) ev (fun _ _ k => k) (fun _ _ z => z)
def bL_law__1181 : List OP := [(.istore 6, 2, (6, 0, 0), vU), (.aload_n 2, 1, (2, 0, 0), vU)]
theorem oL_law__1181 : okAt mL_law_ bL_law__1181 1181 = true := by decide +kernel
theorem rL_law__1181 {g : Gp} {Q : PQ} {L st : List AV} {h : AH} {u : Nat × Nat} (hr : run mL_law_ Q (fun pc L st h u => Ex g mL_law_ pc L st h u Q) bL_law__1181 1181 L st h u) : Ex g mL_law_ 1181 L st h u Q := run_ok (M := mL_law_) cfL_ok (fun _ _ _ _ _ k => k) _ _ _ _ _ _ oL_law__1181 hr
def bL_law__1193 : List OP := [(.istore 7, 2, (7, 0, 0), vU), (.aload_n 2, 1, (2, 0, 0), vU)]
theorem oL_law__1193 : okAt mL_law_ bL_law__1193 1193 = true := by decide +kernel
theorem rL_law__1193 {g : Gp} {Q : PQ} {L st : List AV} {h : AH} {u : Nat × Nat} (hr : run mL_law_ Q (fun pc L st h u => Ex g mL_law_ pc L st h u Q) bL_law__1193 1193 L st h u) : Ex g mL_law_ 1193 L st h u Q := run_ok (M := mL_law_) cfL_ok (fun _ _ _ _ _ k => k) _ _ _ _ _ _ oL_law__1193 hr
def bL_law__1199 : List OP := [(.iload 6, 2, (6, 0, 0), vU), (.if_icmp .eq 5, 3, (1206, 0, 0), vU), (.iconst 0, 1, (0, 0, 0), vI 0), (.ireturn, 1, (0, 0, 0), vU)]
theorem oL_law__1199 : okAt mL_law_ bL_law__1199 1199 = true := by decide +kernel
theorem rL_law__1199 {g : Gp} {Q : PQ} {L st : List AV} {h : AH} {u : Nat × Nat} (hr : run mL_law_ Q (fun pc L st h u => Ex g mL_law_ pc L st h u Q) bL_law__1199 1199 L st h u) : Ex g mL_law_ 1199 L st h u Q := run_ok (M := mL_law_) cfL_ok (fun _ _ _ _ _ k => k) _ _ _ _ _ _ oL_law__1199 hr
def bL_law__1206 : List OP := [(.iload 6, 2, (6, 0, 0), vU), (.ifCond .ne 15, 3, (1223, 0, 0), vU), (.aload_n 3, 1, (3, 0, 0), vU), (.iconst 0, 1, (0, 0, 0), vI 0), (.laload, 1, (0, 0, 0), vU), (.iload 7, 2, (7, 0, 0), vU), (.i2l, 1, (0, 0, 0), vU), (.lcmp, 1, (0, 0, 0), vU), (.ifCond .eq 5, 3, (1223, 0, 0), vU), (.iconst 0, 1, (0, 0, 0), vI 0), (.ireturn, 1, (0, 0, 0), vU)]
theorem oL_law__1206 : okAt mL_law_ bL_law__1206 1206 = true := by decide +kernel
theorem rL_law__1206 {g : Gp} {Q : PQ} {L st : List AV} {h : AH} {u : Nat × Nat} (hr : run mL_law_ Q (fun pc L st h u => Ex g mL_law_ pc L st h u Q) bL_law__1206 1206 L st h u) : Ex g mL_law_ 1206 L st h u Q := run_ok (M := mL_law_) cfL_ok (fun _ _ _ _ _ k => k) _ _ _ _ _ _ oL_law__1206 hr
def bL_law__1223 : List OP := [(.goto 1113, 3, (2336, 0, 0), vU)]
theorem oL_law__1223 : okAt mL_law_ bL_law__1223 1223 = true := by decide +kernel
theorem rL_law__1223 {g : Gp} {Q : PQ} {L st : List AV} {h : AH} {u : Nat × Nat} (hr : run mL_law_ Q (fun pc L st h u => Ex g mL_law_ pc L st h u Q) bL_law__1223 1223 L st h u) : Ex g mL_law_ 1223 L st h u Q := run_ok (M := mL_law_) cfL_ok (fun _ _ _ _ _ k => k) _ _ _ _ _ _ oL_law__1223 hr
theorem t_alike {g : Gp} {Q : PQ} {h : AH} {u : Nat × Nat} {i : Nat} {c v : Int32} (ms : ModS h) (kd : Kd h) (e : zI h 99 0 = c) (hz : c = 0 → zL h 122 0 = v.toInt64) (hu : u.1 ≤ 20000 ∧ u.2 ≤ 900000) (K : Ex g mL_law_ 2336 (LW9 i) [] h u Q) : Ex g mL_law_ 1193 [vR 1, vR 4, vR 99, vR 122, vR 123, vI (nI i), vI c, vU, vU] [vI v] h u Q := by
  refine rL_law__1193 ?_
  simp only [bL_law__1193, run, Nat.reduceAdd, lg, st1, st2, lkill, lset, fvv, sfv, kind3, cat1, retI, retA, List.length_cons, List.length_nil, true_and, and_true, or_true, true_or, qL_law_]
  refine sL_law__1196 hu ms.1 (e_thrown ms ?_)
  simp only [cont, Option.toList, List.cons_append, List.nil_append]
  rw [e]
  refine rL_law__1199 ?_
  simp only [bL_law__1199, run, Nat.reduceAdd, lg, st1, st2, lkill, lset, fvv, sfv, kind3, cat1, retI, retA, List.length_cons, List.length_nil, true_and, and_true, or_true, true_or, qL_law_, not_true_eq_false, not_false_eq_true, false_implies, true_and, and_true, tti, not_true_eq_false, false_implies]
  by_cases c0 : c = 0
  · refine rL_law__1206 ?_
    simp only [bL_law__1206, run, Nat.reduceAdd, lg, st1, st2, lkill, lset, fvv, sfv, kind3, cat1, retI, retA, List.length_cons, List.length_nil, true_and, and_true, or_true, true_or, qL_law_, c0, kd.1, hz c0, lcmp_self, kL, kI, kD, kR, rL, rI, rD, iL, iD, iR, lI, lD, lR, show (Int32.toNatClampNeg 0) = 0 from rfl, not_true_eq_false, not_false_eq_true, false_implies, true_and, and_true, tti, not_true_eq_false, false_implies]
    refine ⟨vin01, ?_⟩
    refine rL_law__1223 ?_
    simp only [bL_law__1223, run, Nat.reduceAdd, lg, st1, st2, lkill, lset, fvv, sfv, kind3, cat1, retI, retA, List.length_cons, List.length_nil, true_and, and_true, or_true, true_or, qL_law_]
    exact Ex.fgt9 K
  · refine rL_law__1206 ?_
    simp only [bL_law__1206, run, Nat.reduceAdd, lg, st1, st2, lkill, lset, fvv, sfv, kind3, cat1, retI, retA, List.length_cons, List.length_nil, true_and, and_true, or_true, true_or, qL_law_, c0, not_true_eq_false, not_false_eq_true, false_implies, true_and, and_true, tti, not_false_eq_true, true_implies, false_implies]
    refine rL_law__1223 ?_
    simp only [bL_law__1223, run, Nat.reduceAdd, lg, st1, st2, lkill, lset, fvv, sfv, kind3, cat1, retI, retA, List.length_cons, List.length_nil, true_and, and_true, or_true, true_or, qL_law_]
    exact Ex.fgt9 K
theorem sL_law__1234 {g : Gp} {L rest : List AV} {h : AH} {u : Nat × Nat} {Q : PQ} {a1 a2 a3 : AV} (hu : u.1 + 1 ≤ 20000 ∧ u.2 + 6 ≤ 900000) (ev : Ev g mL_soundsOf [a1, a2, a3] h (cont g mL_law_ 1237 L rest (u.1 + 1, u.2 + 6) Q)) (hr : rest.length ≤ 4 := by exact Nat.le_of_ble_eq_true rfl) : Ex g mL_law_ 1234 L (a3 :: a2 :: a1 :: rest) h u Q := Ex.callSW (av := [a1, a2, a3]) rfl mL_soundsOf_ok rfl (by decide) lkL_180 smL_soundsOf (by decide) hu.1 hu.2 hr (by decide +kernel) ev (fun _ _ k => k) (fun _ _ z => z)
theorem sL_law__1246 {g : Gp} {L rest : List AV} {h : AH} {u : Nat × Nat} {Q : PQ} {x : Nat} {a1 : AV} (hu : u.1 + 0 ≤ 20000 ∧ u.2 + 0 ≤ 900000) (hx : zK h x = (1, 10)) (ev : Ev g mX10_soundsOf (vR x :: [a1]) h (cont g mL_law_ 1249 L rest (u.1 + 0, u.2 + 0) Q)) (hr : rest.length ≤ 4 := by exact Nat.le_of_ble_eq_true rfl) : Ex g mL_law_ 1246 L (a1 :: vR x :: rest) h u Q := Ex.callV (av := [a1]) (r := (RX10, TX10, 27)) rfl mX10_soundsOf_ok rfl lkL_182 imX10_soundsOf seX10_soundsOf rfl hx (by decide) hu.1 hu.2 hr (by decide +kernel) ev (fun _ _ k => k) (fun _ _ z => z)
theorem sL_law__1252 {g : Gp} {L rest : List AV} {h : AH} {u : Nat × Nat} {Q : PQ} {x : Nat}  (hu : u.1 + 0 ≤ 20000 ∧ u.2 + 0 ≤ 900000) (hx : zK h x = (1, 10)) (ev : Ev g mX10_thrown (vR x :: []) h (cont g mL_law_ 1255 L rest (u.1 + 0, u.2 + 0) Q)) (hr : rest.length ≤ 4 := by exact Nat.le_of_ble_eq_true rfl) : Ex g mL_law_ 1252 L (vR x :: rest) h u Q := Ex.callV (av := []) (r := (RX10, TX10, 27)) rfl mX10_thrown_ok rfl lkL_122 imX10_thrown seX10_thrown rfl hx (by decide) hu.1 hu.2 hr (by decide +kernel) ev (fun _ _ k => k) (fun _ _ z => z)
def bL_law__1237 : List OP := [(.istore 6, 2, (6, 0, 0), vU), (.aload_n 2, 1, (2, 0, 0), vU)]
theorem oL_law__1237 : okAt mL_law_ bL_law__1237 1237 = true := by decide +kernel
theorem rL_law__1237 {g : Gp} {Q : PQ} {L st : List AV} {h : AH} {u : Nat × Nat} (hr : run mL_law_ Q (fun pc L st h u => Ex g mL_law_ pc L st h u Q) bL_law__1237 1237 L st h u) : Ex g mL_law_ 1237 L st h u Q := run_ok (M := mL_law_) cfL_ok (fun _ _ _ _ _ k => k) _ _ _ _ _ _ oL_law__1237 hr
def bL_law__1249 : List OP := [(.istore 7, 2, (7, 0, 0), vU), (.aload_n 2, 1, (2, 0, 0), vU)]
theorem oL_law__1249 : okAt mL_law_ bL_law__1249 1249 = true := by decide +kernel
theorem rL_law__1249 {g : Gp} {Q : PQ} {L st : List AV} {h : AH} {u : Nat × Nat} (hr : run mL_law_ Q (fun pc L st h u => Ex g mL_law_ pc L st h u Q) bL_law__1249 1249 L st h u) : Ex g mL_law_ 1249 L st h u Q := run_ok (M := mL_law_) cfL_ok (fun _ _ _ _ _ k => k) _ _ _ _ _ _ oL_law__1249 hr
def bL_law__1255 : List OP := [(.iload 6, 2, (6, 0, 0), vU), (.if_icmp .eq 5, 3, (1262, 0, 0), vU), (.iconst 0, 1, (0, 0, 0), vI 0), (.ireturn, 1, (0, 0, 0), vU)]
theorem oL_law__1255 : okAt mL_law_ bL_law__1255 1255 = true := by decide +kernel
theorem rL_law__1255 {g : Gp} {Q : PQ} {L st : List AV} {h : AH} {u : Nat × Nat} (hr : run mL_law_ Q (fun pc L st h u => Ex g mL_law_ pc L st h u Q) bL_law__1255 1255 L st h u) : Ex g mL_law_ 1255 L st h u Q := run_ok (M := mL_law_) cfL_ok (fun _ _ _ _ _ k => k) _ _ _ _ _ _ oL_law__1255 hr
def bL_law__1262 : List OP := [(.iload 6, 2, (6, 0, 0), vU), (.ifCond .ne 15, 3, (1279, 0, 0), vU), (.aload_n 3, 1, (3, 0, 0), vU), (.iconst 0, 1, (0, 0, 0), vI 0), (.laload, 1, (0, 0, 0), vU), (.iload 7, 2, (7, 0, 0), vU), (.i2l, 1, (0, 0, 0), vU), (.lcmp, 1, (0, 0, 0), vU), (.ifCond .eq 5, 3, (1279, 0, 0), vU), (.iconst 0, 1, (0, 0, 0), vI 0), (.ireturn, 1, (0, 0, 0), vU)]
theorem oL_law__1262 : okAt mL_law_ bL_law__1262 1262 = true := by decide +kernel
theorem rL_law__1262 {g : Gp} {Q : PQ} {L st : List AV} {h : AH} {u : Nat × Nat} (hr : run mL_law_ Q (fun pc L st h u => Ex g mL_law_ pc L st h u Q) bL_law__1262 1262 L st h u) : Ex g mL_law_ 1262 L st h u Q := run_ok (M := mL_law_) cfL_ok (fun _ _ _ _ _ k => k) _ _ _ _ _ _ oL_law__1262 hr
def bL_law__1279 : List OP := [(.goto 1057, 3, (2336, 0, 0), vU)]
theorem oL_law__1279 : okAt mL_law_ bL_law__1279 1279 = true := by decide +kernel
theorem rL_law__1279 {g : Gp} {Q : PQ} {L st : List AV} {h : AH} {u : Nat × Nat} (hr : run mL_law_ Q (fun pc L st h u => Ex g mL_law_ pc L st h u Q) bL_law__1279 1279 L st h u) : Ex g mL_law_ 1279 L st h u Q := run_ok (M := mL_law_) cfL_ok (fun _ _ _ _ _ k => k) _ _ _ _ _ _ oL_law__1279 hr
theorem t_soundsOf {g : Gp} {Q : PQ} {h : AH} {u : Nat × Nat} {i : Nat} {c v : Int32} (ms : ModS h) (kd : Kd h) (e : zI h 99 0 = c) (hz : c = 0 → zL h 122 0 = v.toInt64) (hu : u.1 ≤ 20000 ∧ u.2 ≤ 900000) (K : Ex g mL_law_ 2336 (LW9 i) [] h u Q) : Ex g mL_law_ 1249 [vR 1, vR 4, vR 99, vR 122, vR 123, vI (nI i), vI c, vU, vU] [vI v] h u Q := by
  refine rL_law__1249 ?_
  simp only [bL_law__1249, run, Nat.reduceAdd, lg, st1, st2, lkill, lset, fvv, sfv, kind3, cat1, retI, retA, List.length_cons, List.length_nil, true_and, and_true, or_true, true_or, qL_law_]
  refine sL_law__1252 hu ms.1 (e_thrown ms ?_)
  simp only [cont, Option.toList, List.cons_append, List.nil_append]
  rw [e]
  refine rL_law__1255 ?_
  simp only [bL_law__1255, run, Nat.reduceAdd, lg, st1, st2, lkill, lset, fvv, sfv, kind3, cat1, retI, retA, List.length_cons, List.length_nil, true_and, and_true, or_true, true_or, qL_law_, not_true_eq_false, not_false_eq_true, false_implies, true_and, and_true, tti, not_true_eq_false, false_implies]
  by_cases c0 : c = 0
  · refine rL_law__1262 ?_
    simp only [bL_law__1262, run, Nat.reduceAdd, lg, st1, st2, lkill, lset, fvv, sfv, kind3, cat1, retI, retA, List.length_cons, List.length_nil, true_and, and_true, or_true, true_or, qL_law_, c0, kd.1, hz c0, lcmp_self, kL, kI, kD, kR, rL, rI, rD, iL, iD, iR, lI, lD, lR, show (Int32.toNatClampNeg 0) = 0 from rfl, not_true_eq_false, not_false_eq_true, false_implies, true_and, and_true, tti, not_true_eq_false, false_implies]
    refine ⟨vin01, ?_⟩
    refine rL_law__1279 ?_
    simp only [bL_law__1279, run, Nat.reduceAdd, lg, st1, st2, lkill, lset, fvv, sfv, kind3, cat1, retI, retA, List.length_cons, List.length_nil, true_and, and_true, or_true, true_or, qL_law_]
    exact Ex.fgt9 K
  · refine rL_law__1262 ?_
    simp only [bL_law__1262, run, Nat.reduceAdd, lg, st1, st2, lkill, lset, fvv, sfv, kind3, cat1, retI, retA, List.length_cons, List.length_nil, true_and, and_true, or_true, true_or, qL_law_, c0, not_true_eq_false, not_false_eq_true, false_implies, true_and, and_true, tti, not_false_eq_true, true_implies, false_implies]
    refine rL_law__1279 ?_
    simp only [bL_law__1279, run, Nat.reduceAdd, lg, st1, st2, lkill, lset, fvv, sfv, kind3, cat1, retI, retA, List.length_cons, List.length_nil, true_and, and_true, or_true, true_or, qL_law_]
    exact Ex.fgt9 K
theorem sL_law__1302 {g : Gp} {L rest : List AV} {h : AH} {u : Nat × Nat} {Q : PQ} {a1 a2 a3 a4 a5 : AV} (hu : u.1 + 2 ≤ 20000 ∧ u.2 + 12 ≤ 900000) (ev : Ev g mL_cost [a1, a2, a3, a4, a5] h (cont g mL_law_ 1305 L rest (u.1 + 2, u.2 + 12) Q)) (hr : rest.length ≤ 4 := by exact Nat.le_of_ble_eq_true rfl) : Ex g mL_law_ 1302 L (a5 :: a4 :: a3 :: a2 :: a1 :: rest) h u Q := Ex.callSW (av := [a1, a2, a3, a4, a5]) rfl mL_cost_ok rfl (by decide) lkL_183 smL_cost (by decide) hu.1 hu.2 hr (by decide +kernel) ev (fun _ _ k => k) (fun _ _ z => z)
theorem sL_law__1326 {g : Gp} {L rest : List AV} {h : AH} {u : Nat × Nat} {Q : PQ} {x : Nat} {a1 a2 a3 : AV} (hu : u.1 + 0 ≤ 20000 ∧ u.2 + 0 ≤ 900000) (hx : zK h x = (1, 10)) (ev : Ev g mX10_cost (vR x :: [a1, a2, a3]) h (cont g mL_law_ 1329 L rest (u.1 + 0, u.2 + 0) Q)) (hr : rest.length ≤ 4 := by exact Nat.le_of_ble_eq_true rfl) : Ex g mL_law_ 1326 L (a3 :: a2 :: a1 :: vR x :: rest) h u Q := Ex.callV (av := [a1, a2, a3]) (r := (RX10, TX10, 27)) rfl mX10_cost_ok rfl lkL_185 imX10_cost seX10_cost rfl hx (by decide) hu.1 hu.2 hr (by decide +kernel) ev (fun _ _ k => k) (fun _ _ z => z)
theorem sL_law__1332 {g : Gp} {L rest : List AV} {h : AH} {u : Nat × Nat} {Q : PQ} {x : Nat}  (hu : u.1 + 0 ≤ 20000 ∧ u.2 + 0 ≤ 900000) (hx : zK h x = (1, 10)) (ev : Ev g mX10_thrown (vR x :: []) h (cont g mL_law_ 1335 L rest (u.1 + 0, u.2 + 0) Q)) (hr : rest.length ≤ 4 := by exact Nat.le_of_ble_eq_true rfl) : Ex g mL_law_ 1332 L (vR x :: rest) h u Q := Ex.callV (av := []) (r := (RX10, TX10, 27)) rfl mX10_thrown_ok rfl lkL_122 imX10_thrown seX10_thrown rfl hx (by decide) hu.1 hu.2 hr (by decide +kernel) ev (fun _ _ k => k) (fun _ _ z => z)
def bL_law__1305 : List OP := [(.istore 6, 2, (6, 0, 0), vU), (.aload_n 2, 1, (2, 0, 0), vU)]
theorem oL_law__1305 : okAt mL_law_ bL_law__1305 1305 = true := by decide +kernel
theorem rL_law__1305 {g : Gp} {Q : PQ} {L st : List AV} {h : AH} {u : Nat × Nat} (hr : run mL_law_ Q (fun pc L st h u => Ex g mL_law_ pc L st h u Q) bL_law__1305 1305 L st h u) : Ex g mL_law_ 1305 L st h u Q := run_ok (M := mL_law_) cfL_ok (fun _ _ _ _ _ k => k) _ _ _ _ _ _ oL_law__1305 hr
def bL_law__1329 : List OP := [(.istore 7, 2, (7, 0, 0), vU), (.aload_n 2, 1, (2, 0, 0), vU)]
theorem oL_law__1329 : okAt mL_law_ bL_law__1329 1329 = true := by decide +kernel
theorem rL_law__1329 {g : Gp} {Q : PQ} {L st : List AV} {h : AH} {u : Nat × Nat} (hr : run mL_law_ Q (fun pc L st h u => Ex g mL_law_ pc L st h u Q) bL_law__1329 1329 L st h u) : Ex g mL_law_ 1329 L st h u Q := run_ok (M := mL_law_) cfL_ok (fun _ _ _ _ _ k => k) _ _ _ _ _ _ oL_law__1329 hr
def bL_law__1335 : List OP := [(.iload 6, 2, (6, 0, 0), vU), (.if_icmp .eq 5, 3, (1342, 0, 0), vU), (.iconst 0, 1, (0, 0, 0), vI 0), (.ireturn, 1, (0, 0, 0), vU)]
theorem oL_law__1335 : okAt mL_law_ bL_law__1335 1335 = true := by decide +kernel
theorem rL_law__1335 {g : Gp} {Q : PQ} {L st : List AV} {h : AH} {u : Nat × Nat} (hr : run mL_law_ Q (fun pc L st h u => Ex g mL_law_ pc L st h u Q) bL_law__1335 1335 L st h u) : Ex g mL_law_ 1335 L st h u Q := run_ok (M := mL_law_) cfL_ok (fun _ _ _ _ _ k => k) _ _ _ _ _ _ oL_law__1335 hr
def bL_law__1342 : List OP := [(.iload 6, 2, (6, 0, 0), vU), (.ifCond .ne 15, 3, (1359, 0, 0), vU), (.aload_n 3, 1, (3, 0, 0), vU), (.iconst 0, 1, (0, 0, 0), vI 0), (.laload, 1, (0, 0, 0), vU), (.iload 7, 2, (7, 0, 0), vU), (.i2l, 1, (0, 0, 0), vU), (.lcmp, 1, (0, 0, 0), vU), (.ifCond .eq 5, 3, (1359, 0, 0), vU), (.iconst 0, 1, (0, 0, 0), vI 0), (.ireturn, 1, (0, 0, 0), vU)]
theorem oL_law__1342 : okAt mL_law_ bL_law__1342 1342 = true := by decide +kernel
theorem rL_law__1342 {g : Gp} {Q : PQ} {L st : List AV} {h : AH} {u : Nat × Nat} (hr : run mL_law_ Q (fun pc L st h u => Ex g mL_law_ pc L st h u Q) bL_law__1342 1342 L st h u) : Ex g mL_law_ 1342 L st h u Q := run_ok (M := mL_law_) cfL_ok (fun _ _ _ _ _ k => k) _ _ _ _ _ _ oL_law__1342 hr
def bL_law__1359 : List OP := [(.goto 977, 3, (2336, 0, 0), vU)]
theorem oL_law__1359 : okAt mL_law_ bL_law__1359 1359 = true := by decide +kernel
theorem rL_law__1359 {g : Gp} {Q : PQ} {L st : List AV} {h : AH} {u : Nat × Nat} (hr : run mL_law_ Q (fun pc L st h u => Ex g mL_law_ pc L st h u Q) bL_law__1359 1359 L st h u) : Ex g mL_law_ 1359 L st h u Q := run_ok (M := mL_law_) cfL_ok (fun _ _ _ _ _ k => k) _ _ _ _ _ _ oL_law__1359 hr
theorem t_cost {g : Gp} {Q : PQ} {h : AH} {u : Nat × Nat} {i : Nat} {c v : Int32} (ms : ModS h) (kd : Kd h) (e : zI h 99 0 = c) (hz : c = 0 → zL h 122 0 = v.toInt64) (hu : u.1 ≤ 20000 ∧ u.2 ≤ 900000) (K : Ex g mL_law_ 2336 (LW9 i) [] h u Q) : Ex g mL_law_ 1329 [vR 1, vR 4, vR 99, vR 122, vR 123, vI (nI i), vI c, vU, vU] [vI v] h u Q := by
  refine rL_law__1329 ?_
  simp only [bL_law__1329, run, Nat.reduceAdd, lg, st1, st2, lkill, lset, fvv, sfv, kind3, cat1, retI, retA, List.length_cons, List.length_nil, true_and, and_true, or_true, true_or, qL_law_]
  refine sL_law__1332 hu ms.1 (e_thrown ms ?_)
  simp only [cont, Option.toList, List.cons_append, List.nil_append]
  rw [e]
  refine rL_law__1335 ?_
  simp only [bL_law__1335, run, Nat.reduceAdd, lg, st1, st2, lkill, lset, fvv, sfv, kind3, cat1, retI, retA, List.length_cons, List.length_nil, true_and, and_true, or_true, true_or, qL_law_, not_true_eq_false, not_false_eq_true, false_implies, true_and, and_true, tti, not_true_eq_false, false_implies]
  by_cases c0 : c = 0
  · refine rL_law__1342 ?_
    simp only [bL_law__1342, run, Nat.reduceAdd, lg, st1, st2, lkill, lset, fvv, sfv, kind3, cat1, retI, retA, List.length_cons, List.length_nil, true_and, and_true, or_true, true_or, qL_law_, c0, kd.1, hz c0, lcmp_self, kL, kI, kD, kR, rL, rI, rD, iL, iD, iR, lI, lD, lR, show (Int32.toNatClampNeg 0) = 0 from rfl, not_true_eq_false, not_false_eq_true, false_implies, true_and, and_true, tti, not_true_eq_false, false_implies]
    refine ⟨vin01, ?_⟩
    refine rL_law__1359 ?_
    simp only [bL_law__1359, run, Nat.reduceAdd, lg, st1, st2, lkill, lset, fvv, sfv, kind3, cat1, retI, retA, List.length_cons, List.length_nil, true_and, and_true, or_true, true_or, qL_law_]
    exact Ex.fgt9 K
  · refine rL_law__1342 ?_
    simp only [bL_law__1342, run, Nat.reduceAdd, lg, st1, st2, lkill, lset, fvv, sfv, kind3, cat1, retI, retA, List.length_cons, List.length_nil, true_and, and_true, or_true, true_or, qL_law_, c0, not_true_eq_false, not_false_eq_true, false_implies, true_and, and_true, tti, not_false_eq_true, true_implies, false_implies]
    refine rL_law__1359 ?_
    simp only [bL_law__1359, run, Nat.reduceAdd, lg, st1, st2, lkill, lset, fvv, sfv, kind3, cat1, retI, retA, List.length_cons, List.length_nil, true_and, and_true, or_true, true_or, qL_law_]
    exact Ex.fgt9 K
theorem sL_law__1382 {g : Gp} {L rest : List AV} {h : AH} {u : Nat × Nat} {Q : PQ} {a1 a2 a3 a4 a5 : AV} (hu : u.1 + 2 ≤ 20000 ∧ u.2 + 12 ≤ 900000) (ev : Ev g mL_columns [a1, a2, a3, a4, a5] h (cont g mL_law_ 1385 L rest (u.1 + 2, u.2 + 12) Q)) (hr : rest.length ≤ 4 := by exact Nat.le_of_ble_eq_true rfl) : Ex g mL_law_ 1382 L (a5 :: a4 :: a3 :: a2 :: a1 :: rest) h u Q := Ex.callSW (av := [a1, a2, a3, a4, a5]) rfl mL_columns_ok rfl (by decide) lkL_186 smL_columns (by decide) hu.1 hu.2 hr (by decide +kernel) ev (fun _ _ k => k) (fun _ _ z => z)
theorem sL_law__1406 {g : Gp} {L rest : List AV} {h : AH} {u : Nat × Nat} {Q : PQ} {x : Nat} {a1 a2 a3 : AV} (hu : u.1 + 0 ≤ 20000 ∧ u.2 + 0 ≤ 900000) (hx : zK h x = (1, 10)) (ev : Ev g mX10_columns (vR x :: [a1, a2, a3]) h (cont g mL_law_ 1409 L rest (u.1 + 0, u.2 + 0) Q)) (hr : rest.length ≤ 4 := by exact Nat.le_of_ble_eq_true rfl) : Ex g mL_law_ 1406 L (a3 :: a2 :: a1 :: vR x :: rest) h u Q := Ex.callV (av := [a1, a2, a3]) (r := (RX10, TX10, 27)) rfl mX10_columns_ok rfl lkL_188 imX10_columns seX10_columns rfl hx (by decide) hu.1 hu.2 hr (by decide +kernel) ev (fun _ _ k => k) (fun _ _ z => z)
theorem sL_law__1412 {g : Gp} {L rest : List AV} {h : AH} {u : Nat × Nat} {Q : PQ} {x : Nat}  (hu : u.1 + 0 ≤ 20000 ∧ u.2 + 0 ≤ 900000) (hx : zK h x = (1, 10)) (ev : Ev g mX10_thrown (vR x :: []) h (cont g mL_law_ 1415 L rest (u.1 + 0, u.2 + 0) Q)) (hr : rest.length ≤ 4 := by exact Nat.le_of_ble_eq_true rfl) : Ex g mL_law_ 1412 L (vR x :: rest) h u Q := Ex.callV (av := []) (r := (RX10, TX10, 27)) rfl mX10_thrown_ok rfl lkL_122 imX10_thrown seX10_thrown rfl hx (by decide) hu.1 hu.2 hr (by decide +kernel) ev (fun _ _ k => k) (fun _ _ z => z)
def bL_law__1385 : List OP := [(.istore 6, 2, (6, 0, 0), vU), (.aload_n 2, 1, (2, 0, 0), vU)]
theorem oL_law__1385 : okAt mL_law_ bL_law__1385 1385 = true := by decide +kernel
theorem rL_law__1385 {g : Gp} {Q : PQ} {L st : List AV} {h : AH} {u : Nat × Nat} (hr : run mL_law_ Q (fun pc L st h u => Ex g mL_law_ pc L st h u Q) bL_law__1385 1385 L st h u) : Ex g mL_law_ 1385 L st h u Q := run_ok (M := mL_law_) cfL_ok (fun _ _ _ _ _ k => k) _ _ _ _ _ _ oL_law__1385 hr
def bL_law__1409 : List OP := [(.istore 7, 2, (7, 0, 0), vU), (.aload_n 2, 1, (2, 0, 0), vU)]
theorem oL_law__1409 : okAt mL_law_ bL_law__1409 1409 = true := by decide +kernel
theorem rL_law__1409 {g : Gp} {Q : PQ} {L st : List AV} {h : AH} {u : Nat × Nat} (hr : run mL_law_ Q (fun pc L st h u => Ex g mL_law_ pc L st h u Q) bL_law__1409 1409 L st h u) : Ex g mL_law_ 1409 L st h u Q := run_ok (M := mL_law_) cfL_ok (fun _ _ _ _ _ k => k) _ _ _ _ _ _ oL_law__1409 hr
def bL_law__1415 : List OP := [(.iload 6, 2, (6, 0, 0), vU), (.if_icmp .eq 5, 3, (1422, 0, 0), vU), (.iconst 0, 1, (0, 0, 0), vI 0), (.ireturn, 1, (0, 0, 0), vU)]
theorem oL_law__1415 : okAt mL_law_ bL_law__1415 1415 = true := by decide +kernel
theorem rL_law__1415 {g : Gp} {Q : PQ} {L st : List AV} {h : AH} {u : Nat × Nat} (hr : run mL_law_ Q (fun pc L st h u => Ex g mL_law_ pc L st h u Q) bL_law__1415 1415 L st h u) : Ex g mL_law_ 1415 L st h u Q := run_ok (M := mL_law_) cfL_ok (fun _ _ _ _ _ k => k) _ _ _ _ _ _ oL_law__1415 hr
def bL_law__1422 : List OP := [(.iload 6, 2, (6, 0, 0), vU), (.ifCond .ne 15, 3, (1439, 0, 0), vU), (.aload_n 3, 1, (3, 0, 0), vU), (.iconst 0, 1, (0, 0, 0), vI 0), (.laload, 1, (0, 0, 0), vU), (.iload 7, 2, (7, 0, 0), vU), (.i2l, 1, (0, 0, 0), vU), (.lcmp, 1, (0, 0, 0), vU), (.ifCond .eq 5, 3, (1439, 0, 0), vU), (.iconst 0, 1, (0, 0, 0), vI 0), (.ireturn, 1, (0, 0, 0), vU)]
theorem oL_law__1422 : okAt mL_law_ bL_law__1422 1422 = true := by decide +kernel
theorem rL_law__1422 {g : Gp} {Q : PQ} {L st : List AV} {h : AH} {u : Nat × Nat} (hr : run mL_law_ Q (fun pc L st h u => Ex g mL_law_ pc L st h u Q) bL_law__1422 1422 L st h u) : Ex g mL_law_ 1422 L st h u Q := run_ok (M := mL_law_) cfL_ok (fun _ _ _ _ _ k => k) _ _ _ _ _ _ oL_law__1422 hr
def bL_law__1439 : List OP := [(.goto 897, 3, (2336, 0, 0), vU)]
theorem oL_law__1439 : okAt mL_law_ bL_law__1439 1439 = true := by decide +kernel
theorem rL_law__1439 {g : Gp} {Q : PQ} {L st : List AV} {h : AH} {u : Nat × Nat} (hr : run mL_law_ Q (fun pc L st h u => Ex g mL_law_ pc L st h u Q) bL_law__1439 1439 L st h u) : Ex g mL_law_ 1439 L st h u Q := run_ok (M := mL_law_) cfL_ok (fun _ _ _ _ _ k => k) _ _ _ _ _ _ oL_law__1439 hr
theorem t_columns {g : Gp} {Q : PQ} {h : AH} {u : Nat × Nat} {i : Nat} {c v : Int32} (ms : ModS h) (kd : Kd h) (e : zI h 99 0 = c) (hz : c = 0 → zL h 122 0 = v.toInt64) (hu : u.1 ≤ 20000 ∧ u.2 ≤ 900000) (K : Ex g mL_law_ 2336 (LW9 i) [] h u Q) : Ex g mL_law_ 1409 [vR 1, vR 4, vR 99, vR 122, vR 123, vI (nI i), vI c, vU, vU] [vI v] h u Q := by
  refine rL_law__1409 ?_
  simp only [bL_law__1409, run, Nat.reduceAdd, lg, st1, st2, lkill, lset, fvv, sfv, kind3, cat1, retI, retA, List.length_cons, List.length_nil, true_and, and_true, or_true, true_or, qL_law_]
  refine sL_law__1412 hu ms.1 (e_thrown ms ?_)
  simp only [cont, Option.toList, List.cons_append, List.nil_append]
  rw [e]
  refine rL_law__1415 ?_
  simp only [bL_law__1415, run, Nat.reduceAdd, lg, st1, st2, lkill, lset, fvv, sfv, kind3, cat1, retI, retA, List.length_cons, List.length_nil, true_and, and_true, or_true, true_or, qL_law_, not_true_eq_false, not_false_eq_true, false_implies, true_and, and_true, tti, not_true_eq_false, false_implies]
  by_cases c0 : c = 0
  · refine rL_law__1422 ?_
    simp only [bL_law__1422, run, Nat.reduceAdd, lg, st1, st2, lkill, lset, fvv, sfv, kind3, cat1, retI, retA, List.length_cons, List.length_nil, true_and, and_true, or_true, true_or, qL_law_, c0, kd.1, hz c0, lcmp_self, kL, kI, kD, kR, rL, rI, rD, iL, iD, iR, lI, lD, lR, show (Int32.toNatClampNeg 0) = 0 from rfl, not_true_eq_false, not_false_eq_true, false_implies, true_and, and_true, tti, not_true_eq_false, false_implies]
    refine ⟨vin01, ?_⟩
    refine rL_law__1439 ?_
    simp only [bL_law__1439, run, Nat.reduceAdd, lg, st1, st2, lkill, lset, fvv, sfv, kind3, cat1, retI, retA, List.length_cons, List.length_nil, true_and, and_true, or_true, true_or, qL_law_]
    exact Ex.fgt9 K
  · refine rL_law__1422 ?_
    simp only [bL_law__1422, run, Nat.reduceAdd, lg, st1, st2, lkill, lset, fvv, sfv, kind3, cat1, retI, retA, List.length_cons, List.length_nil, true_and, and_true, or_true, true_or, qL_law_, c0, not_true_eq_false, not_false_eq_true, false_implies, true_and, and_true, tti, not_false_eq_true, true_implies, false_implies]
    refine rL_law__1439 ?_
    simp only [bL_law__1439, run, Nat.reduceAdd, lg, st1, st2, lkill, lset, fvv, sfv, kind3, cat1, retI, retA, List.length_cons, List.length_nil, true_and, and_true, or_true, true_or, qL_law_]
    exact Ex.fgt9 K
theorem sL_law__1468 {g : Gp} {L rest : List AV} {h : AH} {u : Nat × Nat} {Q : PQ} {a1 a2 a3 a4 a5 a6 : AV} (hu : u.1 + 3 ≤ 20000 ∧ u.2 + 18 ≤ 900000) (ev : Ev g mL_columnAt [a1, a2, a3, a4, a5, a6] h (cont g mL_law_ 1471 L rest (u.1 + 3, u.2 + 18) Q)) (hr : rest.length ≤ 4 := by exact Nat.le_of_ble_eq_true rfl) : Ex g mL_law_ 1468 L (a6 :: a5 :: a4 :: a3 :: a2 :: a1 :: rest) h u Q := Ex.callSW (av := [a1, a2, a3, a4, a5, a6]) rfl mL_columnAt_ok rfl (by decide) lkL_189 smL_columnAt (by decide) hu.1 hu.2 hr (by decide +kernel) ev (fun _ _ k => k) (fun _ _ z => z)
theorem sL_law__1498 {g : Gp} {L rest : List AV} {h : AH} {u : Nat × Nat} {Q : PQ} {x : Nat} {a1 a2 a3 a4 : AV} (hu : u.1 + 0 ≤ 20000 ∧ u.2 + 0 ≤ 900000) (hx : zK h x = (1, 10)) (ev : Ev g mX10_columnAt (vR x :: [a1, a2, a3, a4]) h (cont g mL_law_ 1501 L rest (u.1 + 0, u.2 + 0) Q)) (hr : rest.length ≤ 4 := by exact Nat.le_of_ble_eq_true rfl) : Ex g mL_law_ 1498 L (a4 :: a3 :: a2 :: a1 :: vR x :: rest) h u Q := Ex.callV (av := [a1, a2, a3, a4]) (r := (RX10, TX10, 27)) rfl mX10_columnAt_ok rfl lkL_191 imX10_columnAt seX10_columnAt rfl hx (by decide) hu.1 hu.2 hr (by decide +kernel) ev (fun _ _ k => k) (fun _ _ z => z)
theorem sL_law__1504 {g : Gp} {L rest : List AV} {h : AH} {u : Nat × Nat} {Q : PQ} {x : Nat}  (hu : u.1 + 0 ≤ 20000 ∧ u.2 + 0 ≤ 900000) (hx : zK h x = (1, 10)) (ev : Ev g mX10_thrown (vR x :: []) h (cont g mL_law_ 1507 L rest (u.1 + 0, u.2 + 0) Q)) (hr : rest.length ≤ 4 := by exact Nat.le_of_ble_eq_true rfl) : Ex g mL_law_ 1504 L (vR x :: rest) h u Q := Ex.callV (av := []) (r := (RX10, TX10, 27)) rfl mX10_thrown_ok rfl lkL_122 imX10_thrown seX10_thrown rfl hx (by decide) hu.1 hu.2 hr (by decide +kernel) ev (fun _ _ k => k) (fun _ _ z => z)
def bL_law__1471 : List OP := [(.istore 6, 2, (6, 0, 0), vU), (.aload_n 2, 1, (2, 0, 0), vU)]
theorem oL_law__1471 : okAt mL_law_ bL_law__1471 1471 = true := by decide +kernel
theorem rL_law__1471 {g : Gp} {Q : PQ} {L st : List AV} {h : AH} {u : Nat × Nat} (hr : run mL_law_ Q (fun pc L st h u => Ex g mL_law_ pc L st h u Q) bL_law__1471 1471 L st h u) : Ex g mL_law_ 1471 L st h u Q := run_ok (M := mL_law_) cfL_ok (fun _ _ _ _ _ k => k) _ _ _ _ _ _ oL_law__1471 hr
def bL_law__1501 : List OP := [(.istore 7, 2, (7, 0, 0), vU), (.aload_n 2, 1, (2, 0, 0), vU)]
theorem oL_law__1501 : okAt mL_law_ bL_law__1501 1501 = true := by decide +kernel
theorem rL_law__1501 {g : Gp} {Q : PQ} {L st : List AV} {h : AH} {u : Nat × Nat} (hr : run mL_law_ Q (fun pc L st h u => Ex g mL_law_ pc L st h u Q) bL_law__1501 1501 L st h u) : Ex g mL_law_ 1501 L st h u Q := run_ok (M := mL_law_) cfL_ok (fun _ _ _ _ _ k => k) _ _ _ _ _ _ oL_law__1501 hr
def bL_law__1507 : List OP := [(.iload 6, 2, (6, 0, 0), vU), (.if_icmp .eq 5, 3, (1514, 0, 0), vU), (.iconst 0, 1, (0, 0, 0), vI 0), (.ireturn, 1, (0, 0, 0), vU)]
theorem oL_law__1507 : okAt mL_law_ bL_law__1507 1507 = true := by decide +kernel
theorem rL_law__1507 {g : Gp} {Q : PQ} {L st : List AV} {h : AH} {u : Nat × Nat} (hr : run mL_law_ Q (fun pc L st h u => Ex g mL_law_ pc L st h u Q) bL_law__1507 1507 L st h u) : Ex g mL_law_ 1507 L st h u Q := run_ok (M := mL_law_) cfL_ok (fun _ _ _ _ _ k => k) _ _ _ _ _ _ oL_law__1507 hr
def bL_law__1514 : List OP := [(.iload 6, 2, (6, 0, 0), vU), (.ifCond .ne 15, 3, (1531, 0, 0), vU), (.aload_n 3, 1, (3, 0, 0), vU), (.iconst 0, 1, (0, 0, 0), vI 0), (.laload, 1, (0, 0, 0), vU), (.iload 7, 2, (7, 0, 0), vU), (.i2l, 1, (0, 0, 0), vU), (.lcmp, 1, (0, 0, 0), vU), (.ifCond .eq 5, 3, (1531, 0, 0), vU), (.iconst 0, 1, (0, 0, 0), vI 0), (.ireturn, 1, (0, 0, 0), vU)]
theorem oL_law__1514 : okAt mL_law_ bL_law__1514 1514 = true := by decide +kernel
theorem rL_law__1514 {g : Gp} {Q : PQ} {L st : List AV} {h : AH} {u : Nat × Nat} (hr : run mL_law_ Q (fun pc L st h u => Ex g mL_law_ pc L st h u Q) bL_law__1514 1514 L st h u) : Ex g mL_law_ 1514 L st h u Q := run_ok (M := mL_law_) cfL_ok (fun _ _ _ _ _ k => k) _ _ _ _ _ _ oL_law__1514 hr
def bL_law__1531 : List OP := [(.goto 805, 3, (2336, 0, 0), vU)]
theorem oL_law__1531 : okAt mL_law_ bL_law__1531 1531 = true := by decide +kernel
theorem rL_law__1531 {g : Gp} {Q : PQ} {L st : List AV} {h : AH} {u : Nat × Nat} (hr : run mL_law_ Q (fun pc L st h u => Ex g mL_law_ pc L st h u Q) bL_law__1531 1531 L st h u) : Ex g mL_law_ 1531 L st h u Q := run_ok (M := mL_law_) cfL_ok (fun _ _ _ _ _ k => k) _ _ _ _ _ _ oL_law__1531 hr
theorem t_columnAt {g : Gp} {Q : PQ} {h : AH} {u : Nat × Nat} {i : Nat} {c v : Int32} (ms : ModS h) (kd : Kd h) (e : zI h 99 0 = c) (hz : c = 0 → zL h 122 0 = v.toInt64) (hu : u.1 ≤ 20000 ∧ u.2 ≤ 900000) (K : Ex g mL_law_ 2336 (LW9 i) [] h u Q) : Ex g mL_law_ 1501 [vR 1, vR 4, vR 99, vR 122, vR 123, vI (nI i), vI c, vU, vU] [vI v] h u Q := by
  refine rL_law__1501 ?_
  simp only [bL_law__1501, run, Nat.reduceAdd, lg, st1, st2, lkill, lset, fvv, sfv, kind3, cat1, retI, retA, List.length_cons, List.length_nil, true_and, and_true, or_true, true_or, qL_law_]
  refine sL_law__1504 hu ms.1 (e_thrown ms ?_)
  simp only [cont, Option.toList, List.cons_append, List.nil_append]
  rw [e]
  refine rL_law__1507 ?_
  simp only [bL_law__1507, run, Nat.reduceAdd, lg, st1, st2, lkill, lset, fvv, sfv, kind3, cat1, retI, retA, List.length_cons, List.length_nil, true_and, and_true, or_true, true_or, qL_law_, not_true_eq_false, not_false_eq_true, false_implies, true_and, and_true, tti, not_true_eq_false, false_implies]
  by_cases c0 : c = 0
  · refine rL_law__1514 ?_
    simp only [bL_law__1514, run, Nat.reduceAdd, lg, st1, st2, lkill, lset, fvv, sfv, kind3, cat1, retI, retA, List.length_cons, List.length_nil, true_and, and_true, or_true, true_or, qL_law_, c0, kd.1, hz c0, lcmp_self, kL, kI, kD, kR, rL, rI, rD, iL, iD, iR, lI, lD, lR, show (Int32.toNatClampNeg 0) = 0 from rfl, not_true_eq_false, not_false_eq_true, false_implies, true_and, and_true, tti, not_true_eq_false, false_implies]
    refine ⟨vin01, ?_⟩
    refine rL_law__1531 ?_
    simp only [bL_law__1531, run, Nat.reduceAdd, lg, st1, st2, lkill, lset, fvv, sfv, kind3, cat1, retI, retA, List.length_cons, List.length_nil, true_and, and_true, or_true, true_or, qL_law_]
    exact Ex.fgt9 K
  · refine rL_law__1514 ?_
    simp only [bL_law__1514, run, Nat.reduceAdd, lg, st1, st2, lkill, lset, fvv, sfv, kind3, cat1, retI, retA, List.length_cons, List.length_nil, true_and, and_true, or_true, true_or, qL_law_, c0, not_true_eq_false, not_false_eq_true, false_implies, true_and, and_true, tti, not_false_eq_true, true_implies, false_implies]
    refine rL_law__1531 ?_
    simp only [bL_law__1531, run, Nat.reduceAdd, lg, st1, st2, lkill, lset, fvv, sfv, kind3, cat1, retI, retA, List.length_cons, List.length_nil, true_and, and_true, or_true, true_or, qL_law_]
    exact Ex.fgt9 K
theorem sL_law__1560 {g : Gp} {L rest : List AV} {h : AH} {u : Nat × Nat} {Q : PQ} {a1 a2 a3 a4 a5 a6 : AV} (hu : u.1 + 2 ≤ 20000 ∧ u.2 + 12 ≤ 900000) (ev : Ev g mL_answers [a1, a2, a3, a4, a5, a6] h (cont g mL_law_ 1563 L rest (u.1 + 2, u.2 + 12) Q)) (hr : rest.length ≤ 4 := by exact Nat.le_of_ble_eq_true rfl) : Ex g mL_law_ 1560 L (a6 :: a5 :: a4 :: a3 :: a2 :: a1 :: rest) h u Q := Ex.callSW (av := [a1, a2, a3, a4, a5, a6]) rfl mL_answers_ok rfl (by decide) lkL_192 smL_answers (by decide) hu.1 hu.2 hr (by decide +kernel) ev (fun _ _ k => k) (fun _ _ z => z)
theorem sL_law__1590 {g : Gp} {L rest : List AV} {h : AH} {u : Nat × Nat} {Q : PQ} {x : Nat} {a1 a2 a3 a4 : AV} (hu : u.1 + 0 ≤ 20000 ∧ u.2 + 0 ≤ 900000) (hx : zK h x = (1, 10)) (ev : Ev g mX10_answers (vR x :: [a1, a2, a3, a4]) h (cont g mL_law_ 1593 L rest (u.1 + 0, u.2 + 0) Q)) (hr : rest.length ≤ 4 := by exact Nat.le_of_ble_eq_true rfl) : Ex g mL_law_ 1590 L (a4 :: a3 :: a2 :: a1 :: vR x :: rest) h u Q := Ex.callV (av := [a1, a2, a3, a4]) (r := (RX10, TX10, 27)) rfl mX10_answers_ok rfl lkL_194 imX10_answers seX10_answers rfl hx (by decide) hu.1 hu.2 hr (by decide +kernel) ev (fun _ _ k => k) (fun _ _ z => z)
theorem sL_law__1596 {g : Gp} {L rest : List AV} {h : AH} {u : Nat × Nat} {Q : PQ} {x : Nat}  (hu : u.1 + 0 ≤ 20000 ∧ u.2 + 0 ≤ 900000) (hx : zK h x = (1, 10)) (ev : Ev g mX10_thrown (vR x :: []) h (cont g mL_law_ 1599 L rest (u.1 + 0, u.2 + 0) Q)) (hr : rest.length ≤ 4 := by exact Nat.le_of_ble_eq_true rfl) : Ex g mL_law_ 1596 L (vR x :: rest) h u Q := Ex.callV (av := []) (r := (RX10, TX10, 27)) rfl mX10_thrown_ok rfl lkL_122 imX10_thrown seX10_thrown rfl hx (by decide) hu.1 hu.2 hr (by decide +kernel) ev (fun _ _ k => k) (fun _ _ z => z)
def bL_law__1563 : List OP := [(.istore 6, 2, (6, 0, 0), vU), (.aload_n 2, 1, (2, 0, 0), vU)]
theorem oL_law__1563 : okAt mL_law_ bL_law__1563 1563 = true := by decide +kernel
theorem rL_law__1563 {g : Gp} {Q : PQ} {L st : List AV} {h : AH} {u : Nat × Nat} (hr : run mL_law_ Q (fun pc L st h u => Ex g mL_law_ pc L st h u Q) bL_law__1563 1563 L st h u) : Ex g mL_law_ 1563 L st h u Q := run_ok (M := mL_law_) cfL_ok (fun _ _ _ _ _ k => k) _ _ _ _ _ _ oL_law__1563 hr
def bL_law__1593 : List OP := [(.istore 7, 2, (7, 0, 0), vU), (.aload_n 2, 1, (2, 0, 0), vU)]
theorem oL_law__1593 : okAt mL_law_ bL_law__1593 1593 = true := by decide +kernel
theorem rL_law__1593 {g : Gp} {Q : PQ} {L st : List AV} {h : AH} {u : Nat × Nat} (hr : run mL_law_ Q (fun pc L st h u => Ex g mL_law_ pc L st h u Q) bL_law__1593 1593 L st h u) : Ex g mL_law_ 1593 L st h u Q := run_ok (M := mL_law_) cfL_ok (fun _ _ _ _ _ k => k) _ _ _ _ _ _ oL_law__1593 hr
def bL_law__1599 : List OP := [(.iload 6, 2, (6, 0, 0), vU), (.if_icmp .eq 5, 3, (1606, 0, 0), vU), (.iconst 0, 1, (0, 0, 0), vI 0), (.ireturn, 1, (0, 0, 0), vU)]
theorem oL_law__1599 : okAt mL_law_ bL_law__1599 1599 = true := by decide +kernel
theorem rL_law__1599 {g : Gp} {Q : PQ} {L st : List AV} {h : AH} {u : Nat × Nat} (hr : run mL_law_ Q (fun pc L st h u => Ex g mL_law_ pc L st h u Q) bL_law__1599 1599 L st h u) : Ex g mL_law_ 1599 L st h u Q := run_ok (M := mL_law_) cfL_ok (fun _ _ _ _ _ k => k) _ _ _ _ _ _ oL_law__1599 hr
def bL_law__1606 : List OP := [(.iload 6, 2, (6, 0, 0), vU), (.ifCond .ne 15, 3, (1623, 0, 0), vU), (.aload_n 3, 1, (3, 0, 0), vU), (.iconst 0, 1, (0, 0, 0), vI 0), (.laload, 1, (0, 0, 0), vU), (.iload 7, 2, (7, 0, 0), vU), (.i2l, 1, (0, 0, 0), vU), (.lcmp, 1, (0, 0, 0), vU), (.ifCond .eq 5, 3, (1623, 0, 0), vU), (.iconst 0, 1, (0, 0, 0), vI 0), (.ireturn, 1, (0, 0, 0), vU)]
theorem oL_law__1606 : okAt mL_law_ bL_law__1606 1606 = true := by decide +kernel
theorem rL_law__1606 {g : Gp} {Q : PQ} {L st : List AV} {h : AH} {u : Nat × Nat} (hr : run mL_law_ Q (fun pc L st h u => Ex g mL_law_ pc L st h u Q) bL_law__1606 1606 L st h u) : Ex g mL_law_ 1606 L st h u Q := run_ok (M := mL_law_) cfL_ok (fun _ _ _ _ _ k => k) _ _ _ _ _ _ oL_law__1606 hr
def bL_law__1623 : List OP := [(.goto 713, 3, (2336, 0, 0), vU)]
theorem oL_law__1623 : okAt mL_law_ bL_law__1623 1623 = true := by decide +kernel
theorem rL_law__1623 {g : Gp} {Q : PQ} {L st : List AV} {h : AH} {u : Nat × Nat} (hr : run mL_law_ Q (fun pc L st h u => Ex g mL_law_ pc L st h u Q) bL_law__1623 1623 L st h u) : Ex g mL_law_ 1623 L st h u Q := run_ok (M := mL_law_) cfL_ok (fun _ _ _ _ _ k => k) _ _ _ _ _ _ oL_law__1623 hr
theorem t_answers {g : Gp} {Q : PQ} {h : AH} {u : Nat × Nat} {i : Nat} {c v : Int32} (ms : ModS h) (kd : Kd h) (e : zI h 99 0 = c) (hz : c = 0 → zL h 122 0 = v.toInt64) (hu : u.1 ≤ 20000 ∧ u.2 ≤ 900000) (K : Ex g mL_law_ 2336 (LW9 i) [] h u Q) : Ex g mL_law_ 1593 [vR 1, vR 4, vR 99, vR 122, vR 123, vI (nI i), vI c, vU, vU] [vI v] h u Q := by
  refine rL_law__1593 ?_
  simp only [bL_law__1593, run, Nat.reduceAdd, lg, st1, st2, lkill, lset, fvv, sfv, kind3, cat1, retI, retA, List.length_cons, List.length_nil, true_and, and_true, or_true, true_or, qL_law_]
  refine sL_law__1596 hu ms.1 (e_thrown ms ?_)
  simp only [cont, Option.toList, List.cons_append, List.nil_append]
  rw [e]
  refine rL_law__1599 ?_
  simp only [bL_law__1599, run, Nat.reduceAdd, lg, st1, st2, lkill, lset, fvv, sfv, kind3, cat1, retI, retA, List.length_cons, List.length_nil, true_and, and_true, or_true, true_or, qL_law_, not_true_eq_false, not_false_eq_true, false_implies, true_and, and_true, tti, not_true_eq_false, false_implies]
  by_cases c0 : c = 0
  · refine rL_law__1606 ?_
    simp only [bL_law__1606, run, Nat.reduceAdd, lg, st1, st2, lkill, lset, fvv, sfv, kind3, cat1, retI, retA, List.length_cons, List.length_nil, true_and, and_true, or_true, true_or, qL_law_, c0, kd.1, hz c0, lcmp_self, kL, kI, kD, kR, rL, rI, rD, iL, iD, iR, lI, lD, lR, show (Int32.toNatClampNeg 0) = 0 from rfl, not_true_eq_false, not_false_eq_true, false_implies, true_and, and_true, tti, not_true_eq_false, false_implies]
    refine ⟨vin01, ?_⟩
    refine rL_law__1623 ?_
    simp only [bL_law__1623, run, Nat.reduceAdd, lg, st1, st2, lkill, lset, fvv, sfv, kind3, cat1, retI, retA, List.length_cons, List.length_nil, true_and, and_true, or_true, true_or, qL_law_]
    exact Ex.fgt9 K
  · refine rL_law__1606 ?_
    simp only [bL_law__1606, run, Nat.reduceAdd, lg, st1, st2, lkill, lset, fvv, sfv, kind3, cat1, retI, retA, List.length_cons, List.length_nil, true_and, and_true, or_true, true_or, qL_law_, c0, not_true_eq_false, not_false_eq_true, false_implies, true_and, and_true, tti, not_false_eq_true, true_implies, false_implies]
    refine rL_law__1623 ?_
    simp only [bL_law__1623, run, Nat.reduceAdd, lg, st1, st2, lkill, lset, fvv, sfv, kind3, cat1, retI, retA, List.length_cons, List.length_nil, true_and, and_true, or_true, true_or, qL_law_]
    exact Ex.fgt9 K
theorem sL_law__1646 {g : Gp} {L rest : List AV} {h : AH} {u : Nat × Nat} {Q : PQ} {a1 a2 a3 a4 a5 : AV} (hu : u.1 + 2 ≤ 20000 ∧ u.2 + 12 ≤ 900000) (ev : Ev g mL_mainAnswer [a1, a2, a3, a4, a5] h (cont g mL_law_ 1649 L rest (u.1 + 2, u.2 + 12) Q)) (hr : rest.length ≤ 4 := by exact Nat.le_of_ble_eq_true rfl) : Ex g mL_law_ 1646 L (a5 :: a4 :: a3 :: a2 :: a1 :: rest) h u Q := Ex.callSW (av := [a1, a2, a3, a4, a5]) rfl mL_mainAnswer_ok rfl (by decide) lkL_195 smL_mainAnswer (by decide) hu.1 hu.2 hr (by decide +kernel) ev (fun _ _ k => k) (fun _ _ z => z)
theorem sL_law__1670 {g : Gp} {L rest : List AV} {h : AH} {u : Nat × Nat} {Q : PQ} {x : Nat} {a1 a2 a3 : AV} (hu : u.1 + 0 ≤ 20000 ∧ u.2 + 0 ≤ 900000) (hx : zK h x = (1, 10)) (ev : Ev g mX10_mainAnswer (vR x :: [a1, a2, a3]) h (cont g mL_law_ 1673 L rest (u.1 + 0, u.2 + 0) Q)) (hr : rest.length ≤ 4 := by exact Nat.le_of_ble_eq_true rfl) : Ex g mL_law_ 1670 L (a3 :: a2 :: a1 :: vR x :: rest) h u Q := Ex.callV (av := [a1, a2, a3]) (r := (RX10, TX10, 27)) rfl mX10_mainAnswer_ok rfl lkL_197 imX10_mainAnswer seX10_mainAnswer rfl hx (by decide) hu.1 hu.2 hr (by decide +kernel) ev (fun _ _ k => k) (fun _ _ z => z)
theorem sL_law__1676 {g : Gp} {L rest : List AV} {h : AH} {u : Nat × Nat} {Q : PQ} {x : Nat}  (hu : u.1 + 0 ≤ 20000 ∧ u.2 + 0 ≤ 900000) (hx : zK h x = (1, 10)) (ev : Ev g mX10_thrown (vR x :: []) h (cont g mL_law_ 1679 L rest (u.1 + 0, u.2 + 0) Q)) (hr : rest.length ≤ 4 := by exact Nat.le_of_ble_eq_true rfl) : Ex g mL_law_ 1676 L (vR x :: rest) h u Q := Ex.callV (av := []) (r := (RX10, TX10, 27)) rfl mX10_thrown_ok rfl lkL_122 imX10_thrown seX10_thrown rfl hx (by decide) hu.1 hu.2 hr (by decide +kernel) ev (fun _ _ k => k) (fun _ _ z => z)
def bL_law__1649 : List OP := [(.istore 6, 2, (6, 0, 0), vU), (.aload_n 2, 1, (2, 0, 0), vU)]
theorem oL_law__1649 : okAt mL_law_ bL_law__1649 1649 = true := by decide +kernel
theorem rL_law__1649 {g : Gp} {Q : PQ} {L st : List AV} {h : AH} {u : Nat × Nat} (hr : run mL_law_ Q (fun pc L st h u => Ex g mL_law_ pc L st h u Q) bL_law__1649 1649 L st h u) : Ex g mL_law_ 1649 L st h u Q := run_ok (M := mL_law_) cfL_ok (fun _ _ _ _ _ k => k) _ _ _ _ _ _ oL_law__1649 hr
def bL_law__1673 : List OP := [(.istore 7, 2, (7, 0, 0), vU), (.aload_n 2, 1, (2, 0, 0), vU)]
theorem oL_law__1673 : okAt mL_law_ bL_law__1673 1673 = true := by decide +kernel
theorem rL_law__1673 {g : Gp} {Q : PQ} {L st : List AV} {h : AH} {u : Nat × Nat} (hr : run mL_law_ Q (fun pc L st h u => Ex g mL_law_ pc L st h u Q) bL_law__1673 1673 L st h u) : Ex g mL_law_ 1673 L st h u Q := run_ok (M := mL_law_) cfL_ok (fun _ _ _ _ _ k => k) _ _ _ _ _ _ oL_law__1673 hr
def bL_law__1679 : List OP := [(.iload 6, 2, (6, 0, 0), vU), (.if_icmp .eq 5, 3, (1686, 0, 0), vU), (.iconst 0, 1, (0, 0, 0), vI 0), (.ireturn, 1, (0, 0, 0), vU)]
theorem oL_law__1679 : okAt mL_law_ bL_law__1679 1679 = true := by decide +kernel
theorem rL_law__1679 {g : Gp} {Q : PQ} {L st : List AV} {h : AH} {u : Nat × Nat} (hr : run mL_law_ Q (fun pc L st h u => Ex g mL_law_ pc L st h u Q) bL_law__1679 1679 L st h u) : Ex g mL_law_ 1679 L st h u Q := run_ok (M := mL_law_) cfL_ok (fun _ _ _ _ _ k => k) _ _ _ _ _ _ oL_law__1679 hr
def bL_law__1686 : List OP := [(.iload 6, 2, (6, 0, 0), vU), (.ifCond .ne 15, 3, (1703, 0, 0), vU), (.aload_n 3, 1, (3, 0, 0), vU), (.iconst 0, 1, (0, 0, 0), vI 0), (.laload, 1, (0, 0, 0), vU), (.iload 7, 2, (7, 0, 0), vU), (.i2l, 1, (0, 0, 0), vU), (.lcmp, 1, (0, 0, 0), vU), (.ifCond .eq 5, 3, (1703, 0, 0), vU), (.iconst 0, 1, (0, 0, 0), vI 0), (.ireturn, 1, (0, 0, 0), vU)]
theorem oL_law__1686 : okAt mL_law_ bL_law__1686 1686 = true := by decide +kernel
theorem rL_law__1686 {g : Gp} {Q : PQ} {L st : List AV} {h : AH} {u : Nat × Nat} (hr : run mL_law_ Q (fun pc L st h u => Ex g mL_law_ pc L st h u Q) bL_law__1686 1686 L st h u) : Ex g mL_law_ 1686 L st h u Q := run_ok (M := mL_law_) cfL_ok (fun _ _ _ _ _ k => k) _ _ _ _ _ _ oL_law__1686 hr
def bL_law__1703 : List OP := [(.goto 633, 3, (2336, 0, 0), vU)]
theorem oL_law__1703 : okAt mL_law_ bL_law__1703 1703 = true := by decide +kernel
theorem rL_law__1703 {g : Gp} {Q : PQ} {L st : List AV} {h : AH} {u : Nat × Nat} (hr : run mL_law_ Q (fun pc L st h u => Ex g mL_law_ pc L st h u Q) bL_law__1703 1703 L st h u) : Ex g mL_law_ 1703 L st h u Q := run_ok (M := mL_law_) cfL_ok (fun _ _ _ _ _ k => k) _ _ _ _ _ _ oL_law__1703 hr
theorem t_mainAnswer {g : Gp} {Q : PQ} {h : AH} {u : Nat × Nat} {i : Nat} {c v : Int32} (ms : ModS h) (kd : Kd h) (e : zI h 99 0 = c) (hz : c = 0 → zL h 122 0 = v.toInt64) (hu : u.1 ≤ 20000 ∧ u.2 ≤ 900000) (K : Ex g mL_law_ 2336 (LW9 i) [] h u Q) : Ex g mL_law_ 1673 [vR 1, vR 4, vR 99, vR 122, vR 123, vI (nI i), vI c, vU, vU] [vI v] h u Q := by
  refine rL_law__1673 ?_
  simp only [bL_law__1673, run, Nat.reduceAdd, lg, st1, st2, lkill, lset, fvv, sfv, kind3, cat1, retI, retA, List.length_cons, List.length_nil, true_and, and_true, or_true, true_or, qL_law_]
  refine sL_law__1676 hu ms.1 (e_thrown ms ?_)
  simp only [cont, Option.toList, List.cons_append, List.nil_append]
  rw [e]
  refine rL_law__1679 ?_
  simp only [bL_law__1679, run, Nat.reduceAdd, lg, st1, st2, lkill, lset, fvv, sfv, kind3, cat1, retI, retA, List.length_cons, List.length_nil, true_and, and_true, or_true, true_or, qL_law_, not_true_eq_false, not_false_eq_true, false_implies, true_and, and_true, tti, not_true_eq_false, false_implies]
  by_cases c0 : c = 0
  · refine rL_law__1686 ?_
    simp only [bL_law__1686, run, Nat.reduceAdd, lg, st1, st2, lkill, lset, fvv, sfv, kind3, cat1, retI, retA, List.length_cons, List.length_nil, true_and, and_true, or_true, true_or, qL_law_, c0, kd.1, hz c0, lcmp_self, kL, kI, kD, kR, rL, rI, rD, iL, iD, iR, lI, lD, lR, show (Int32.toNatClampNeg 0) = 0 from rfl, not_true_eq_false, not_false_eq_true, false_implies, true_and, and_true, tti, not_true_eq_false, false_implies]
    refine ⟨vin01, ?_⟩
    refine rL_law__1703 ?_
    simp only [bL_law__1703, run, Nat.reduceAdd, lg, st1, st2, lkill, lset, fvv, sfv, kind3, cat1, retI, retA, List.length_cons, List.length_nil, true_and, and_true, or_true, true_or, qL_law_]
    exact Ex.fgt9 K
  · refine rL_law__1686 ?_
    simp only [bL_law__1686, run, Nat.reduceAdd, lg, st1, st2, lkill, lset, fvv, sfv, kind3, cat1, retI, retA, List.length_cons, List.length_nil, true_and, and_true, or_true, true_or, qL_law_, c0, not_true_eq_false, not_false_eq_true, false_implies, true_and, and_true, tti, not_false_eq_true, true_implies, false_implies]
    refine rL_law__1703 ?_
    simp only [bL_law__1703, run, Nat.reduceAdd, lg, st1, st2, lkill, lset, fvv, sfv, kind3, cat1, retI, retA, List.length_cons, List.length_nil, true_and, and_true, or_true, true_or, qL_law_]
    exact Ex.fgt9 K
theorem sL_law__1721 {g : Gp} {L rest : List AV} {h : AH} {u : Nat × Nat} {Q : PQ} {a1 a2 a3 a4 : AV} (hu : u.1 + 1 ≤ 20000 ∧ u.2 + 6 ≤ 900000) (ev : Ev g mL_far [a1, a2, a3, a4] h (cont g mL_law_ 1724 L rest (u.1 + 1, u.2 + 6) Q)) (hr : rest.length ≤ 4 := by exact Nat.le_of_ble_eq_true rfl) : Ex g mL_law_ 1721 L (a4 :: a3 :: a2 :: a1 :: rest) h u Q := Ex.callSW (av := [a1, a2, a3, a4]) rfl mL_far_ok rfl (by decide) lkL_198 smL_far (by decide) hu.1 hu.2 hr (by decide +kernel) ev (fun _ _ k => k) (fun _ _ z => z)
theorem sL_law__1739 {g : Gp} {L rest : List AV} {h : AH} {u : Nat × Nat} {Q : PQ} {x : Nat} {a1 a2 : AV} (hu : u.1 + 1 ≤ 20000 ∧ u.2 + 1200 ≤ 900000) (hx : zK h x = (1, 10)) (ev : Ev g mX10_far (vR x :: [a1, a2]) h (cont g mL_law_ 1742 L rest (u.1 + 1, u.2 + 1200) Q)) (hr : rest.length ≤ 4 := by exact Nat.le_of_ble_eq_true rfl) : Ex g mL_law_ 1739 L (a2 :: a1 :: vR x :: rest) h u Q := Ex.callV (av := [a1, a2]) (r := (RX10, TX10, 27)) rfl mX10_far_ok rfl lkL_201 imX10_far seX10_far rfl hx (by decide) hu.1 hu.2 hr (by decide +kernel) ev (fun _ _ k => k) (fun _ _ z => z)
theorem sL_law__1745 {g : Gp} {L rest : List AV} {h : AH} {u : Nat × Nat} {Q : PQ} {x : Nat}  (hu : u.1 + 0 ≤ 20000 ∧ u.2 + 0 ≤ 900000) (hx : zK h x = (1, 10)) (ev : Ev g mX10_thrown (vR x :: []) h (cont g mL_law_ 1748 L rest (u.1 + 0, u.2 + 0) Q)) (hr : rest.length ≤ 4 := by exact Nat.le_of_ble_eq_true rfl) : Ex g mL_law_ 1745 L (vR x :: rest) h u Q := Ex.callV (av := []) (r := (RX10, TX10, 27)) rfl mX10_thrown_ok rfl lkL_122 imX10_thrown seX10_thrown rfl hx (by decide) hu.1 hu.2 hr (by decide +kernel) ev (fun _ _ k => k) (fun _ _ z => z)
def bL_law__1724 : List OP := [(.istore 6, 2, (6, 0, 0), vU), (.aload_n 2, 1, (2, 0, 0), vU)]
theorem oL_law__1724 : okAt mL_law_ bL_law__1724 1724 = true := by decide +kernel
theorem rL_law__1724 {g : Gp} {Q : PQ} {L st : List AV} {h : AH} {u : Nat × Nat} (hr : run mL_law_ Q (fun pc L st h u => Ex g mL_law_ pc L st h u Q) bL_law__1724 1724 L st h u) : Ex g mL_law_ 1724 L st h u Q := run_ok (M := mL_law_) cfL_ok (fun _ _ _ _ _ k => k) _ _ _ _ _ _ oL_law__1724 hr
def bL_law__1742 : List OP := [(.dstore 7, 2, (7, 0, 0), vU), (.aload_n 2, 1, (2, 0, 0), vU)]
theorem oL_law__1742 : okAt mL_law_ bL_law__1742 1742 = true := by decide +kernel
theorem rL_law__1742 {g : Gp} {Q : PQ} {L st : List AV} {h : AH} {u : Nat × Nat} (hr : run mL_law_ Q (fun pc L st h u => Ex g mL_law_ pc L st h u Q) bL_law__1742 1742 L st h u) : Ex g mL_law_ 1742 L st h u Q := run_ok (M := mL_law_) cfL_ok (fun _ _ _ _ _ k => k) _ _ _ _ _ _ oL_law__1742 hr
def bL_law__1748 : List OP := [(.iload 6, 2, (6, 0, 0), vU), (.if_icmp .eq 5, 3, (1755, 0, 0), vU), (.iconst 0, 1, (0, 0, 0), vI 0), (.ireturn, 1, (0, 0, 0), vU)]
theorem oL_law__1748 : okAt mL_law_ bL_law__1748 1748 = true := by decide +kernel
theorem rL_law__1748 {g : Gp} {Q : PQ} {L st : List AV} {h : AH} {u : Nat × Nat} (hr : run mL_law_ Q (fun pc L st h u => Ex g mL_law_ pc L st h u Q) bL_law__1748 1748 L st h u) : Ex g mL_law_ 1748 L st h u Q := run_ok (M := mL_law_) cfL_ok (fun _ _ _ _ _ k => k) _ _ _ _ _ _ oL_law__1748 hr
def bL_law__1755 : List OP := [(.iload 6, 2, (6, 0, 0), vU), (.ifCond .ne 35, 3, (1792, 0, 0), vU), (.aload 4, 2, (4, 0, 0), vU), (.iconst 0, 1, (0, 0, 0), vI 0), (.daload, 1, (0, 0, 0), vU), (.dload 7, 2, (7, 0, 0), vU), (.dcmp .l, 1, (0, 0, 0), vU), (.ifCond .eq 25, 3, (1792, 0, 0), vU), (.aload 4, 2, (4, 0, 0), vU), (.iconst 0, 1, (0, 0, 0), vI 0), (.daload, 1, (0, 0, 0), vU), (.aload 4, 2, (4, 0, 0), vU), (.iconst 0, 1, (0, 0, 0), vI 0), (.daload, 1, (0, 0, 0), vU), (.dcmp .l, 1, (0, 0, 0), vU), (.ifCond .eq 11, 3, (1790, 0, 0), vU), (.dload 7, 2, (7, 0, 0), vU), (.dload 7, 2, (7, 0, 0), vU), (.dcmp .l, 1, (0, 0, 0), vU), (.ifCond .ne 5, 3, (1792, 0, 0), vU), (.iconst 0, 1, (0, 0, 0), vI 0), (.ireturn, 1, (0, 0, 0), vU)]
theorem oL_law__1755 : okAt mL_law_ bL_law__1755 1755 = true := by decide +kernel
theorem rL_law__1755 {g : Gp} {Q : PQ} {L st : List AV} {h : AH} {u : Nat × Nat} (hr : run mL_law_ Q (fun pc L st h u => Ex g mL_law_ pc L st h u Q) bL_law__1755 1755 L st h u) : Ex g mL_law_ 1755 L st h u Q := run_ok (M := mL_law_) cfL_ok (fun _ _ _ _ _ k => k) _ _ _ _ _ _ oL_law__1755 hr
def bL_law__1792 : List OP := [(.goto 544, 3, (2336, 0, 0), vU)]
theorem oL_law__1792 : okAt mL_law_ bL_law__1792 1792 = true := by decide +kernel
theorem rL_law__1792 {g : Gp} {Q : PQ} {L st : List AV} {h : AH} {u : Nat × Nat} (hr : run mL_law_ Q (fun pc L st h u => Ex g mL_law_ pc L st h u Q) bL_law__1792 1792 L st h u) : Ex g mL_law_ 1792 L st h u Q := run_ok (M := mL_law_) cfL_ok (fun _ _ _ _ _ k => k) _ _ _ _ _ _ oL_law__1792 hr
theorem t_far {g : Gp} {Q : PQ} {h : AH} {u : Nat × Nat} {i : Nat} {c : Int32} {v : UInt64} (ms : ModS h) (kd : Kd h) (e : zI h 99 0 = c) (hz : c = 0 → zD h 123 0 = v ∧ FP.dcmp v 0 ≠ none) (hu : u.1 ≤ 20000 ∧ u.2 ≤ 900000) (K : Ex g mL_law_ 2336 (LW9 i) [] h u Q) : Ex g mL_law_ 1742 [vR 1, vR 4, vR 99, vR 122, vR 123, vI (nI i), vI c, vU, vU] [vD v] h u Q := by
  refine rL_law__1742 ?_
  simp only [bL_law__1742, run, Nat.reduceAdd, lg, st1, st2, lkill, lset, fvv, sfv, kind3, cat1, retI, retA, List.length_cons, List.length_nil, true_and, and_true, or_true, true_or, qL_law_]
  refine sL_law__1745 hu ms.1 (e_thrown ms ?_)
  simp only [cont, Option.toList, List.cons_append, List.nil_append]
  rw [e]
  refine rL_law__1748 ?_
  simp only [bL_law__1748, run, Nat.reduceAdd, lg, st1, st2, lkill, lset, fvv, sfv, kind3, cat1, retI, retA, List.length_cons, List.length_nil, true_and, and_true, or_true, true_or, qL_law_, not_true_eq_false, not_false_eq_true, false_implies, true_and, and_true, tti, not_true_eq_false, false_implies]
  by_cases c0 : c = 0
  · refine rL_law__1755 ?_
    simp only [bL_law__1755, run, Nat.reduceAdd, lg, st1, st2, lkill, lset, fvv, sfv, kind3, cat1, retI, retA, List.length_cons, List.length_nil, true_and, and_true, or_true, true_or, qL_law_, c0, kd.2, dcmp_self (hz c0).2, (hz c0).1, kL, kI, kD, kR, rL, rI, rD, iL, iD, iR, lI, lD, lR, show Op.cmpValue (some Ordering.eq) .l = 0 from rfl, show (Int32.toNatClampNeg 0) = 0 from rfl, not_true_eq_false, not_false_eq_true, false_implies, true_and, and_true, tti, not_true_eq_false, false_implies]
    refine ⟨vin01, ?_⟩
    refine rL_law__1792 ?_
    simp only [bL_law__1792, run, Nat.reduceAdd, lg, st1, st2, lkill, lset, fvv, sfv, kind3, cat1, retI, retA, List.length_cons, List.length_nil, true_and, and_true, or_true, true_or, qL_law_]
    exact Ex.fgt9 K
  · refine rL_law__1755 ?_
    simp only [bL_law__1755, run, Nat.reduceAdd, lg, st1, st2, lkill, lset, fvv, sfv, kind3, cat1, retI, retA, List.length_cons, List.length_nil, true_and, and_true, or_true, true_or, qL_law_, c0, not_true_eq_false, not_false_eq_true, false_implies, true_and, and_true, tti, not_false_eq_true, true_implies, false_implies]
    refine rL_law__1792 ?_
    simp only [bL_law__1792, run, Nat.reduceAdd, lg, st1, st2, lkill, lset, fvv, sfv, kind3, cat1, retI, retA, List.length_cons, List.length_nil, true_and, and_true, or_true, true_or, qL_law_]
    exact Ex.fgt9 K
theorem sL_law__1803 {g : Gp} {L rest : List AV} {h : AH} {u : Nat × Nat} {Q : PQ} {a1 a2 a3 : AV} (hu : u.1 + 1 ≤ 20000 ∧ u.2 + 6 ≤ 900000) (ev : Ev g mL_nearest [a1, a2, a3] h (cont g mL_law_ 1806 L rest (u.1 + 1, u.2 + 6) Q)) (hr : rest.length ≤ 4 := by exact Nat.le_of_ble_eq_true rfl) : Ex g mL_law_ 1803 L (a3 :: a2 :: a1 :: rest) h u Q := Ex.callSW (av := [a1, a2, a3]) rfl mL_nearest_ok rfl (by decide) lkL_202 smL_nearest (by decide) hu.1 hu.2 hr (by decide +kernel) ev (fun _ _ k => k) (fun _ _ z => z)
theorem sL_law__1815 {g : Gp} {L rest : List AV} {h : AH} {u : Nat × Nat} {Q : PQ} {x : Nat} {a1 : AV} (hu : u.1 + 1 ≤ 20000 ∧ u.2 + 1200 ≤ 900000) (hx : zK h x = (1, 10)) (ev : Ev g mX10_nearest (vR x :: [a1]) h (cont g mL_law_ 1818 L rest (u.1 + 1, u.2 + 1200) Q)) (hr : rest.length ≤ 4 := by exact Nat.le_of_ble_eq_true rfl) : Ex g mL_law_ 1815 L (a1 :: vR x :: rest) h u Q := Ex.callV (av := [a1]) (r := (RX10, TX10, 27)) rfl mX10_nearest_ok rfl lkL_204 imX10_nearest seX10_nearest rfl hx (by decide) hu.1 hu.2 hr (by decide +kernel) ev (fun _ _ k => k) (fun _ _ z => z)
theorem sL_law__1821 {g : Gp} {L rest : List AV} {h : AH} {u : Nat × Nat} {Q : PQ} {x : Nat}  (hu : u.1 + 0 ≤ 20000 ∧ u.2 + 0 ≤ 900000) (hx : zK h x = (1, 10)) (ev : Ev g mX10_thrown (vR x :: []) h (cont g mL_law_ 1824 L rest (u.1 + 0, u.2 + 0) Q)) (hr : rest.length ≤ 4 := by exact Nat.le_of_ble_eq_true rfl) : Ex g mL_law_ 1821 L (vR x :: rest) h u Q := Ex.callV (av := []) (r := (RX10, TX10, 27)) rfl mX10_thrown_ok rfl lkL_122 imX10_thrown seX10_thrown rfl hx (by decide) hu.1 hu.2 hr (by decide +kernel) ev (fun _ _ k => k) (fun _ _ z => z)
def bL_law__1806 : List OP := [(.istore 6, 2, (6, 0, 0), vU), (.aload_n 2, 1, (2, 0, 0), vU)]
theorem oL_law__1806 : okAt mL_law_ bL_law__1806 1806 = true := by decide +kernel
theorem rL_law__1806 {g : Gp} {Q : PQ} {L st : List AV} {h : AH} {u : Nat × Nat} (hr : run mL_law_ Q (fun pc L st h u => Ex g mL_law_ pc L st h u Q) bL_law__1806 1806 L st h u) : Ex g mL_law_ 1806 L st h u Q := run_ok (M := mL_law_) cfL_ok (fun _ _ _ _ _ k => k) _ _ _ _ _ _ oL_law__1806 hr
def bL_law__1818 : List OP := [(.istore 7, 2, (7, 0, 0), vU), (.aload_n 2, 1, (2, 0, 0), vU)]
theorem oL_law__1818 : okAt mL_law_ bL_law__1818 1818 = true := by decide +kernel
theorem rL_law__1818 {g : Gp} {Q : PQ} {L st : List AV} {h : AH} {u : Nat × Nat} (hr : run mL_law_ Q (fun pc L st h u => Ex g mL_law_ pc L st h u Q) bL_law__1818 1818 L st h u) : Ex g mL_law_ 1818 L st h u Q := run_ok (M := mL_law_) cfL_ok (fun _ _ _ _ _ k => k) _ _ _ _ _ _ oL_law__1818 hr
def bL_law__1824 : List OP := [(.iload 6, 2, (6, 0, 0), vU), (.if_icmp .eq 5, 3, (1831, 0, 0), vU), (.iconst 0, 1, (0, 0, 0), vI 0), (.ireturn, 1, (0, 0, 0), vU)]
theorem oL_law__1824 : okAt mL_law_ bL_law__1824 1824 = true := by decide +kernel
theorem rL_law__1824 {g : Gp} {Q : PQ} {L st : List AV} {h : AH} {u : Nat × Nat} (hr : run mL_law_ Q (fun pc L st h u => Ex g mL_law_ pc L st h u Q) bL_law__1824 1824 L st h u) : Ex g mL_law_ 1824 L st h u Q := run_ok (M := mL_law_) cfL_ok (fun _ _ _ _ _ k => k) _ _ _ _ _ _ oL_law__1824 hr
def bL_law__1831 : List OP := [(.iload 6, 2, (6, 0, 0), vU), (.ifCond .ne 15, 3, (1848, 0, 0), vU), (.aload_n 3, 1, (3, 0, 0), vU), (.iconst 0, 1, (0, 0, 0), vI 0), (.laload, 1, (0, 0, 0), vU), (.iload 7, 2, (7, 0, 0), vU), (.i2l, 1, (0, 0, 0), vU), (.lcmp, 1, (0, 0, 0), vU), (.ifCond .eq 5, 3, (1848, 0, 0), vU), (.iconst 0, 1, (0, 0, 0), vI 0), (.ireturn, 1, (0, 0, 0), vU)]
theorem oL_law__1831 : okAt mL_law_ bL_law__1831 1831 = true := by decide +kernel
theorem rL_law__1831 {g : Gp} {Q : PQ} {L st : List AV} {h : AH} {u : Nat × Nat} (hr : run mL_law_ Q (fun pc L st h u => Ex g mL_law_ pc L st h u Q) bL_law__1831 1831 L st h u) : Ex g mL_law_ 1831 L st h u Q := run_ok (M := mL_law_) cfL_ok (fun _ _ _ _ _ k => k) _ _ _ _ _ _ oL_law__1831 hr
def bL_law__1848 : List OP := [(.goto 488, 3, (2336, 0, 0), vU)]
theorem oL_law__1848 : okAt mL_law_ bL_law__1848 1848 = true := by decide +kernel
theorem rL_law__1848 {g : Gp} {Q : PQ} {L st : List AV} {h : AH} {u : Nat × Nat} (hr : run mL_law_ Q (fun pc L st h u => Ex g mL_law_ pc L st h u Q) bL_law__1848 1848 L st h u) : Ex g mL_law_ 1848 L st h u Q := run_ok (M := mL_law_) cfL_ok (fun _ _ _ _ _ k => k) _ _ _ _ _ _ oL_law__1848 hr
theorem t_nearest {g : Gp} {Q : PQ} {h : AH} {u : Nat × Nat} {i : Nat} {c v : Int32} (ms : ModS h) (kd : Kd h) (e : zI h 99 0 = c) (hz : c = 0 → zL h 122 0 = v.toInt64) (hu : u.1 ≤ 20000 ∧ u.2 ≤ 900000) (K : Ex g mL_law_ 2336 (LW9 i) [] h u Q) : Ex g mL_law_ 1818 [vR 1, vR 4, vR 99, vR 122, vR 123, vI (nI i), vI c, vU, vU] [vI v] h u Q := by
  refine rL_law__1818 ?_
  simp only [bL_law__1818, run, Nat.reduceAdd, lg, st1, st2, lkill, lset, fvv, sfv, kind3, cat1, retI, retA, List.length_cons, List.length_nil, true_and, and_true, or_true, true_or, qL_law_]
  refine sL_law__1821 hu ms.1 (e_thrown ms ?_)
  simp only [cont, Option.toList, List.cons_append, List.nil_append]
  rw [e]
  refine rL_law__1824 ?_
  simp only [bL_law__1824, run, Nat.reduceAdd, lg, st1, st2, lkill, lset, fvv, sfv, kind3, cat1, retI, retA, List.length_cons, List.length_nil, true_and, and_true, or_true, true_or, qL_law_, not_true_eq_false, not_false_eq_true, false_implies, true_and, and_true, tti, not_true_eq_false, false_implies]
  by_cases c0 : c = 0
  · refine rL_law__1831 ?_
    simp only [bL_law__1831, run, Nat.reduceAdd, lg, st1, st2, lkill, lset, fvv, sfv, kind3, cat1, retI, retA, List.length_cons, List.length_nil, true_and, and_true, or_true, true_or, qL_law_, c0, kd.1, hz c0, lcmp_self, kL, kI, kD, kR, rL, rI, rD, iL, iD, iR, lI, lD, lR, show (Int32.toNatClampNeg 0) = 0 from rfl, not_true_eq_false, not_false_eq_true, false_implies, true_and, and_true, tti, not_true_eq_false, false_implies]
    refine ⟨vin01, ?_⟩
    refine rL_law__1848 ?_
    simp only [bL_law__1848, run, Nat.reduceAdd, lg, st1, st2, lkill, lset, fvv, sfv, kind3, cat1, retI, retA, List.length_cons, List.length_nil, true_and, and_true, or_true, true_or, qL_law_]
    exact Ex.fgt9 K
  · refine rL_law__1831 ?_
    simp only [bL_law__1831, run, Nat.reduceAdd, lg, st1, st2, lkill, lset, fvv, sfv, kind3, cat1, retI, retA, List.length_cons, List.length_nil, true_and, and_true, or_true, true_or, qL_law_, c0, not_true_eq_false, not_false_eq_true, false_implies, true_and, and_true, tti, not_false_eq_true, true_implies, false_implies]
    refine rL_law__1848 ?_
    simp only [bL_law__1848, run, Nat.reduceAdd, lg, st1, st2, lkill, lset, fvv, sfv, kind3, cat1, retI, retA, List.length_cons, List.length_nil, true_and, and_true, or_true, true_or, qL_law_]
    exact Ex.fgt9 K
theorem sL_law__1865 {g : Gp} {L rest : List AV} {h : AH} {u : Nat × Nat} {Q : PQ} {a1 a2 a3 a4 : AV} (hu : u.1 + 1 ≤ 20000 ∧ u.2 + 6 ≤ 900000) (ev : Ev g mL_recalled [a1, a2, a3, a4] h (cont g mL_law_ 1868 L rest (u.1 + 1, u.2 + 6) Q)) (hr : rest.length ≤ 4 := by exact Nat.le_of_ble_eq_true rfl) : Ex g mL_law_ 1865 L (a4 :: a3 :: a2 :: a1 :: rest) h u Q := Ex.callSW (av := [a1, a2, a3, a4]) rfl mL_recalled_ok rfl (by decide) lkL_205 smL_recalled (by decide) hu.1 hu.2 hr (by decide +kernel) ev (fun _ _ k => k) (fun _ _ z => z)
theorem sL_law__1883 {g : Gp} {L rest : List AV} {h : AH} {u : Nat × Nat} {Q : PQ} {x : Nat} {a1 a2 : AV} (hu : u.1 + 0 ≤ 20000 ∧ u.2 + 0 ≤ 900000) (hx : zK h x = (1, 10)) (ev : Ev g mX10_recalled (vR x :: [a1, a2]) h (cont g mL_law_ 1886 L rest (u.1 + 0, u.2 + 0) Q)) (hr : rest.length ≤ 4 := by exact Nat.le_of_ble_eq_true rfl) : Ex g mL_law_ 1883 L (a2 :: a1 :: vR x :: rest) h u Q := Ex.callV (av := [a1, a2]) (r := (RX10, TX10, 27)) rfl mX10_recalled_ok rfl lkL_207 imX10_recalled seX10_recalled rfl hx (by decide) hu.1 hu.2 hr (by decide +kernel) ev (fun _ _ k => k) (fun _ _ z => z)
theorem sL_law__1889 {g : Gp} {L rest : List AV} {h : AH} {u : Nat × Nat} {Q : PQ} {x : Nat}  (hu : u.1 + 0 ≤ 20000 ∧ u.2 + 0 ≤ 900000) (hx : zK h x = (1, 10)) (ev : Ev g mX10_thrown (vR x :: []) h (cont g mL_law_ 1892 L rest (u.1 + 0, u.2 + 0) Q)) (hr : rest.length ≤ 4 := by exact Nat.le_of_ble_eq_true rfl) : Ex g mL_law_ 1889 L (vR x :: rest) h u Q := Ex.callV (av := []) (r := (RX10, TX10, 27)) rfl mX10_thrown_ok rfl lkL_122 imX10_thrown seX10_thrown rfl hx (by decide) hu.1 hu.2 hr (by decide +kernel) ev (fun _ _ k => k) (fun _ _ z => z)
def bL_law__1868 : List OP := [(.istore 6, 2, (6, 0, 0), vU), (.aload_n 2, 1, (2, 0, 0), vU)]
theorem oL_law__1868 : okAt mL_law_ bL_law__1868 1868 = true := by decide +kernel
theorem rL_law__1868 {g : Gp} {Q : PQ} {L st : List AV} {h : AH} {u : Nat × Nat} (hr : run mL_law_ Q (fun pc L st h u => Ex g mL_law_ pc L st h u Q) bL_law__1868 1868 L st h u) : Ex g mL_law_ 1868 L st h u Q := run_ok (M := mL_law_) cfL_ok (fun _ _ _ _ _ k => k) _ _ _ _ _ _ oL_law__1868 hr
def bL_law__1886 : List OP := [(.istore 7, 2, (7, 0, 0), vU), (.aload_n 2, 1, (2, 0, 0), vU)]
theorem oL_law__1886 : okAt mL_law_ bL_law__1886 1886 = true := by decide +kernel
theorem rL_law__1886 {g : Gp} {Q : PQ} {L st : List AV} {h : AH} {u : Nat × Nat} (hr : run mL_law_ Q (fun pc L st h u => Ex g mL_law_ pc L st h u Q) bL_law__1886 1886 L st h u) : Ex g mL_law_ 1886 L st h u Q := run_ok (M := mL_law_) cfL_ok (fun _ _ _ _ _ k => k) _ _ _ _ _ _ oL_law__1886 hr
def bL_law__1892 : List OP := [(.iload 6, 2, (6, 0, 0), vU), (.if_icmp .eq 5, 3, (1899, 0, 0), vU), (.iconst 0, 1, (0, 0, 0), vI 0), (.ireturn, 1, (0, 0, 0), vU)]
theorem oL_law__1892 : okAt mL_law_ bL_law__1892 1892 = true := by decide +kernel
theorem rL_law__1892 {g : Gp} {Q : PQ} {L st : List AV} {h : AH} {u : Nat × Nat} (hr : run mL_law_ Q (fun pc L st h u => Ex g mL_law_ pc L st h u Q) bL_law__1892 1892 L st h u) : Ex g mL_law_ 1892 L st h u Q := run_ok (M := mL_law_) cfL_ok (fun _ _ _ _ _ k => k) _ _ _ _ _ _ oL_law__1892 hr
def bL_law__1899 : List OP := [(.iload 6, 2, (6, 0, 0), vU), (.ifCond .ne 15, 3, (1916, 0, 0), vU), (.aload_n 3, 1, (3, 0, 0), vU), (.iconst 0, 1, (0, 0, 0), vI 0), (.laload, 1, (0, 0, 0), vU), (.iload 7, 2, (7, 0, 0), vU), (.i2l, 1, (0, 0, 0), vU), (.lcmp, 1, (0, 0, 0), vU), (.ifCond .eq 5, 3, (1916, 0, 0), vU), (.iconst 0, 1, (0, 0, 0), vI 0), (.ireturn, 1, (0, 0, 0), vU)]
theorem oL_law__1899 : okAt mL_law_ bL_law__1899 1899 = true := by decide +kernel
theorem rL_law__1899 {g : Gp} {Q : PQ} {L st : List AV} {h : AH} {u : Nat × Nat} (hr : run mL_law_ Q (fun pc L st h u => Ex g mL_law_ pc L st h u Q) bL_law__1899 1899 L st h u) : Ex g mL_law_ 1899 L st h u Q := run_ok (M := mL_law_) cfL_ok (fun _ _ _ _ _ k => k) _ _ _ _ _ _ oL_law__1899 hr
def bL_law__1916 : List OP := [(.goto 420, 3, (2336, 0, 0), vU)]
theorem oL_law__1916 : okAt mL_law_ bL_law__1916 1916 = true := by decide +kernel
theorem rL_law__1916 {g : Gp} {Q : PQ} {L st : List AV} {h : AH} {u : Nat × Nat} (hr : run mL_law_ Q (fun pc L st h u => Ex g mL_law_ pc L st h u Q) bL_law__1916 1916 L st h u) : Ex g mL_law_ 1916 L st h u Q := run_ok (M := mL_law_) cfL_ok (fun _ _ _ _ _ k => k) _ _ _ _ _ _ oL_law__1916 hr
theorem t_recalled {g : Gp} {Q : PQ} {h : AH} {u : Nat × Nat} {i : Nat} {c v : Int32} (ms : ModS h) (kd : Kd h) (e : zI h 99 0 = c) (hz : c = 0 → zL h 122 0 = v.toInt64) (hu : u.1 ≤ 20000 ∧ u.2 ≤ 900000) (K : Ex g mL_law_ 2336 (LW9 i) [] h u Q) : Ex g mL_law_ 1886 [vR 1, vR 4, vR 99, vR 122, vR 123, vI (nI i), vI c, vU, vU] [vI v] h u Q := by
  refine rL_law__1886 ?_
  simp only [bL_law__1886, run, Nat.reduceAdd, lg, st1, st2, lkill, lset, fvv, sfv, kind3, cat1, retI, retA, List.length_cons, List.length_nil, true_and, and_true, or_true, true_or, qL_law_]
  refine sL_law__1889 hu ms.1 (e_thrown ms ?_)
  simp only [cont, Option.toList, List.cons_append, List.nil_append]
  rw [e]
  refine rL_law__1892 ?_
  simp only [bL_law__1892, run, Nat.reduceAdd, lg, st1, st2, lkill, lset, fvv, sfv, kind3, cat1, retI, retA, List.length_cons, List.length_nil, true_and, and_true, or_true, true_or, qL_law_, not_true_eq_false, not_false_eq_true, false_implies, true_and, and_true, tti, not_true_eq_false, false_implies]
  by_cases c0 : c = 0
  · refine rL_law__1899 ?_
    simp only [bL_law__1899, run, Nat.reduceAdd, lg, st1, st2, lkill, lset, fvv, sfv, kind3, cat1, retI, retA, List.length_cons, List.length_nil, true_and, and_true, or_true, true_or, qL_law_, c0, kd.1, hz c0, lcmp_self, kL, kI, kD, kR, rL, rI, rD, iL, iD, iR, lI, lD, lR, show (Int32.toNatClampNeg 0) = 0 from rfl, not_true_eq_false, not_false_eq_true, false_implies, true_and, and_true, tti, not_true_eq_false, false_implies]
    refine ⟨vin01, ?_⟩
    refine rL_law__1916 ?_
    simp only [bL_law__1916, run, Nat.reduceAdd, lg, st1, st2, lkill, lset, fvv, sfv, kind3, cat1, retI, retA, List.length_cons, List.length_nil, true_and, and_true, or_true, true_or, qL_law_]
    exact Ex.fgt9 K
  · refine rL_law__1899 ?_
    simp only [bL_law__1899, run, Nat.reduceAdd, lg, st1, st2, lkill, lset, fvv, sfv, kind3, cat1, retI, retA, List.length_cons, List.length_nil, true_and, and_true, or_true, true_or, qL_law_, c0, not_true_eq_false, not_false_eq_true, false_implies, true_and, and_true, tti, not_false_eq_true, true_implies, false_implies]
    refine rL_law__1916 ?_
    simp only [bL_law__1916, run, Nat.reduceAdd, lg, st1, st2, lkill, lset, fvv, sfv, kind3, cat1, retI, retA, List.length_cons, List.length_nil, true_and, and_true, or_true, true_or, qL_law_]
    exact Ex.fgt9 K
theorem sL_law__1939 {g : Gp} {L rest : List AV} {h : AH} {u : Nat × Nat} {Q : PQ} {a1 a2 a3 a4 a5 : AV} (hu : u.1 + 2 ≤ 20000 ∧ u.2 + 12 ≤ 900000) (ev : Ev g mL_recalledAt [a1, a2, a3, a4, a5] h (cont g mL_law_ 1942 L rest (u.1 + 2, u.2 + 12) Q)) (hr : rest.length ≤ 4 := by exact Nat.le_of_ble_eq_true rfl) : Ex g mL_law_ 1939 L (a5 :: a4 :: a3 :: a2 :: a1 :: rest) h u Q := Ex.callSW (av := [a1, a2, a3, a4, a5]) rfl mL_recalledAt_ok rfl (by decide) lkL_208 smL_recalledAt (by decide) hu.1 hu.2 hr (by decide +kernel) ev (fun _ _ k => k) (fun _ _ z => z)
theorem sL_law__1963 {g : Gp} {L rest : List AV} {h : AH} {u : Nat × Nat} {Q : PQ} {x : Nat} {a1 a2 a3 : AV} (hu : u.1 + 0 ≤ 20000 ∧ u.2 + 0 ≤ 900000) (hx : zK h x = (1, 10)) (ev : Ev g mX10_recalledAt (vR x :: [a1, a2, a3]) h (cont g mL_law_ 1966 L rest (u.1 + 0, u.2 + 0) Q)) (hr : rest.length ≤ 4 := by exact Nat.le_of_ble_eq_true rfl) : Ex g mL_law_ 1963 L (a3 :: a2 :: a1 :: vR x :: rest) h u Q := Ex.callV (av := [a1, a2, a3]) (r := (RX10, TX10, 27)) rfl mX10_recalledAt_ok rfl lkL_210 imX10_recalledAt seX10_recalledAt rfl hx (by decide) hu.1 hu.2 hr (by decide +kernel) ev (fun _ _ k => k) (fun _ _ z => z)
theorem sL_law__1969 {g : Gp} {L rest : List AV} {h : AH} {u : Nat × Nat} {Q : PQ} {x : Nat}  (hu : u.1 + 0 ≤ 20000 ∧ u.2 + 0 ≤ 900000) (hx : zK h x = (1, 10)) (ev : Ev g mX10_thrown (vR x :: []) h (cont g mL_law_ 1972 L rest (u.1 + 0, u.2 + 0) Q)) (hr : rest.length ≤ 4 := by exact Nat.le_of_ble_eq_true rfl) : Ex g mL_law_ 1969 L (vR x :: rest) h u Q := Ex.callV (av := []) (r := (RX10, TX10, 27)) rfl mX10_thrown_ok rfl lkL_122 imX10_thrown seX10_thrown rfl hx (by decide) hu.1 hu.2 hr (by decide +kernel) ev (fun _ _ k => k) (fun _ _ z => z)
def bL_law__1942 : List OP := [(.istore 6, 2, (6, 0, 0), vU), (.aload_n 2, 1, (2, 0, 0), vU)]
theorem oL_law__1942 : okAt mL_law_ bL_law__1942 1942 = true := by decide +kernel
theorem rL_law__1942 {g : Gp} {Q : PQ} {L st : List AV} {h : AH} {u : Nat × Nat} (hr : run mL_law_ Q (fun pc L st h u => Ex g mL_law_ pc L st h u Q) bL_law__1942 1942 L st h u) : Ex g mL_law_ 1942 L st h u Q := run_ok (M := mL_law_) cfL_ok (fun _ _ _ _ _ k => k) _ _ _ _ _ _ oL_law__1942 hr
def bL_law__1966 : List OP := [(.istore 7, 2, (7, 0, 0), vU), (.aload_n 2, 1, (2, 0, 0), vU)]
theorem oL_law__1966 : okAt mL_law_ bL_law__1966 1966 = true := by decide +kernel
theorem rL_law__1966 {g : Gp} {Q : PQ} {L st : List AV} {h : AH} {u : Nat × Nat} (hr : run mL_law_ Q (fun pc L st h u => Ex g mL_law_ pc L st h u Q) bL_law__1966 1966 L st h u) : Ex g mL_law_ 1966 L st h u Q := run_ok (M := mL_law_) cfL_ok (fun _ _ _ _ _ k => k) _ _ _ _ _ _ oL_law__1966 hr
def bL_law__1972 : List OP := [(.iload 6, 2, (6, 0, 0), vU), (.if_icmp .eq 5, 3, (1979, 0, 0), vU), (.iconst 0, 1, (0, 0, 0), vI 0), (.ireturn, 1, (0, 0, 0), vU)]
theorem oL_law__1972 : okAt mL_law_ bL_law__1972 1972 = true := by decide +kernel
theorem rL_law__1972 {g : Gp} {Q : PQ} {L st : List AV} {h : AH} {u : Nat × Nat} (hr : run mL_law_ Q (fun pc L st h u => Ex g mL_law_ pc L st h u Q) bL_law__1972 1972 L st h u) : Ex g mL_law_ 1972 L st h u Q := run_ok (M := mL_law_) cfL_ok (fun _ _ _ _ _ k => k) _ _ _ _ _ _ oL_law__1972 hr
def bL_law__1979 : List OP := [(.iload 6, 2, (6, 0, 0), vU), (.ifCond .ne 15, 3, (1996, 0, 0), vU), (.aload_n 3, 1, (3, 0, 0), vU), (.iconst 0, 1, (0, 0, 0), vI 0), (.laload, 1, (0, 0, 0), vU), (.iload 7, 2, (7, 0, 0), vU), (.i2l, 1, (0, 0, 0), vU), (.lcmp, 1, (0, 0, 0), vU), (.ifCond .eq 5, 3, (1996, 0, 0), vU), (.iconst 0, 1, (0, 0, 0), vI 0), (.ireturn, 1, (0, 0, 0), vU)]
theorem oL_law__1979 : okAt mL_law_ bL_law__1979 1979 = true := by decide +kernel
theorem rL_law__1979 {g : Gp} {Q : PQ} {L st : List AV} {h : AH} {u : Nat × Nat} (hr : run mL_law_ Q (fun pc L st h u => Ex g mL_law_ pc L st h u Q) bL_law__1979 1979 L st h u) : Ex g mL_law_ 1979 L st h u Q := run_ok (M := mL_law_) cfL_ok (fun _ _ _ _ _ k => k) _ _ _ _ _ _ oL_law__1979 hr
def bL_law__1996 : List OP := [(.goto 340, 3, (2336, 0, 0), vU)]
theorem oL_law__1996 : okAt mL_law_ bL_law__1996 1996 = true := by decide +kernel
theorem rL_law__1996 {g : Gp} {Q : PQ} {L st : List AV} {h : AH} {u : Nat × Nat} (hr : run mL_law_ Q (fun pc L st h u => Ex g mL_law_ pc L st h u Q) bL_law__1996 1996 L st h u) : Ex g mL_law_ 1996 L st h u Q := run_ok (M := mL_law_) cfL_ok (fun _ _ _ _ _ k => k) _ _ _ _ _ _ oL_law__1996 hr
theorem t_recalledAt {g : Gp} {Q : PQ} {h : AH} {u : Nat × Nat} {i : Nat} {c v : Int32} (ms : ModS h) (kd : Kd h) (e : zI h 99 0 = c) (hz : c = 0 → zL h 122 0 = v.toInt64) (hu : u.1 ≤ 20000 ∧ u.2 ≤ 900000) (K : Ex g mL_law_ 2336 (LW9 i) [] h u Q) : Ex g mL_law_ 1966 [vR 1, vR 4, vR 99, vR 122, vR 123, vI (nI i), vI c, vU, vU] [vI v] h u Q := by
  refine rL_law__1966 ?_
  simp only [bL_law__1966, run, Nat.reduceAdd, lg, st1, st2, lkill, lset, fvv, sfv, kind3, cat1, retI, retA, List.length_cons, List.length_nil, true_and, and_true, or_true, true_or, qL_law_]
  refine sL_law__1969 hu ms.1 (e_thrown ms ?_)
  simp only [cont, Option.toList, List.cons_append, List.nil_append]
  rw [e]
  refine rL_law__1972 ?_
  simp only [bL_law__1972, run, Nat.reduceAdd, lg, st1, st2, lkill, lset, fvv, sfv, kind3, cat1, retI, retA, List.length_cons, List.length_nil, true_and, and_true, or_true, true_or, qL_law_, not_true_eq_false, not_false_eq_true, false_implies, true_and, and_true, tti, not_true_eq_false, false_implies]
  by_cases c0 : c = 0
  · refine rL_law__1979 ?_
    simp only [bL_law__1979, run, Nat.reduceAdd, lg, st1, st2, lkill, lset, fvv, sfv, kind3, cat1, retI, retA, List.length_cons, List.length_nil, true_and, and_true, or_true, true_or, qL_law_, c0, kd.1, hz c0, lcmp_self, kL, kI, kD, kR, rL, rI, rD, iL, iD, iR, lI, lD, lR, show (Int32.toNatClampNeg 0) = 0 from rfl, not_true_eq_false, not_false_eq_true, false_implies, true_and, and_true, tti, not_true_eq_false, false_implies]
    refine ⟨vin01, ?_⟩
    refine rL_law__1996 ?_
    simp only [bL_law__1996, run, Nat.reduceAdd, lg, st1, st2, lkill, lset, fvv, sfv, kind3, cat1, retI, retA, List.length_cons, List.length_nil, true_and, and_true, or_true, true_or, qL_law_]
    exact Ex.fgt9 K
  · refine rL_law__1979 ?_
    simp only [bL_law__1979, run, Nat.reduceAdd, lg, st1, st2, lkill, lset, fvv, sfv, kind3, cat1, retI, retA, List.length_cons, List.length_nil, true_and, and_true, or_true, true_or, qL_law_, c0, not_true_eq_false, not_false_eq_true, false_implies, true_and, and_true, tti, not_false_eq_true, true_implies, false_implies]
    refine rL_law__1996 ?_
    simp only [bL_law__1996, run, Nat.reduceAdd, lg, st1, st2, lkill, lset, fvv, sfv, kind3, cat1, retI, retA, List.length_cons, List.length_nil, true_and, and_true, or_true, true_or, qL_law_]
    exact Ex.fgt9 K
theorem sL_law__2007 {g : Gp} {L rest : List AV} {h : AH} {u : Nat × Nat} {Q : PQ} {a1 a2 a3 : AV} (hu : u.1 + 1 ≤ 20000 ∧ u.2 + 6 ≤ 900000) (ev : Ev g mL_recalledWell [a1, a2, a3] h (cont g mL_law_ 2010 L rest (u.1 + 1, u.2 + 6) Q)) (hr : rest.length ≤ 4 := by exact Nat.le_of_ble_eq_true rfl) : Ex g mL_law_ 2007 L (a3 :: a2 :: a1 :: rest) h u Q := Ex.callSW (av := [a1, a2, a3]) rfl mL_recalledWell_ok rfl (by decide) lkL_211 smL_recalledWell (by decide) hu.1 hu.2 hr (by decide +kernel) ev (fun _ _ k => k) (fun _ _ z => z)
theorem sL_law__2019 {g : Gp} {L rest : List AV} {h : AH} {u : Nat × Nat} {Q : PQ} {x : Nat} {a1 : AV} (hu : u.1 + 0 ≤ 20000 ∧ u.2 + 0 ≤ 900000) (hx : zK h x = (1, 10)) (ev : Ev g mX10_recalledWell (vR x :: [a1]) h (cont g mL_law_ 2022 L rest (u.1 + 0, u.2 + 0) Q)) (hr : rest.length ≤ 4 := by exact Nat.le_of_ble_eq_true rfl) : Ex g mL_law_ 2019 L (a1 :: vR x :: rest) h u Q := Ex.callV (av := [a1]) (r := (RX10, TX10, 27)) rfl mX10_recalledWell_ok rfl lkL_213 imX10_recalledWell seX10_recalledWell rfl hx (by decide) hu.1 hu.2 hr (by decide +kernel) ev (fun _ _ k => k) (fun _ _ z => z)
theorem sL_law__2025 {g : Gp} {L rest : List AV} {h : AH} {u : Nat × Nat} {Q : PQ} {x : Nat}  (hu : u.1 + 0 ≤ 20000 ∧ u.2 + 0 ≤ 900000) (hx : zK h x = (1, 10)) (ev : Ev g mX10_thrown (vR x :: []) h (cont g mL_law_ 2028 L rest (u.1 + 0, u.2 + 0) Q)) (hr : rest.length ≤ 4 := by exact Nat.le_of_ble_eq_true rfl) : Ex g mL_law_ 2025 L (vR x :: rest) h u Q := Ex.callV (av := []) (r := (RX10, TX10, 27)) rfl mX10_thrown_ok rfl lkL_122 imX10_thrown seX10_thrown rfl hx (by decide) hu.1 hu.2 hr (by decide +kernel) ev (fun _ _ k => k) (fun _ _ z => z)
def bL_law__2010 : List OP := [(.istore 6, 2, (6, 0, 0), vU), (.aload_n 2, 1, (2, 0, 0), vU)]
theorem oL_law__2010 : okAt mL_law_ bL_law__2010 2010 = true := by decide +kernel
theorem rL_law__2010 {g : Gp} {Q : PQ} {L st : List AV} {h : AH} {u : Nat × Nat} (hr : run mL_law_ Q (fun pc L st h u => Ex g mL_law_ pc L st h u Q) bL_law__2010 2010 L st h u) : Ex g mL_law_ 2010 L st h u Q := run_ok (M := mL_law_) cfL_ok (fun _ _ _ _ _ k => k) _ _ _ _ _ _ oL_law__2010 hr
def bL_law__2022 : List OP := [(.istore 7, 2, (7, 0, 0), vU), (.aload_n 2, 1, (2, 0, 0), vU)]
theorem oL_law__2022 : okAt mL_law_ bL_law__2022 2022 = true := by decide +kernel
theorem rL_law__2022 {g : Gp} {Q : PQ} {L st : List AV} {h : AH} {u : Nat × Nat} (hr : run mL_law_ Q (fun pc L st h u => Ex g mL_law_ pc L st h u Q) bL_law__2022 2022 L st h u) : Ex g mL_law_ 2022 L st h u Q := run_ok (M := mL_law_) cfL_ok (fun _ _ _ _ _ k => k) _ _ _ _ _ _ oL_law__2022 hr
def bL_law__2028 : List OP := [(.iload 6, 2, (6, 0, 0), vU), (.if_icmp .eq 5, 3, (2035, 0, 0), vU), (.iconst 0, 1, (0, 0, 0), vI 0), (.ireturn, 1, (0, 0, 0), vU)]
theorem oL_law__2028 : okAt mL_law_ bL_law__2028 2028 = true := by decide +kernel
theorem rL_law__2028 {g : Gp} {Q : PQ} {L st : List AV} {h : AH} {u : Nat × Nat} (hr : run mL_law_ Q (fun pc L st h u => Ex g mL_law_ pc L st h u Q) bL_law__2028 2028 L st h u) : Ex g mL_law_ 2028 L st h u Q := run_ok (M := mL_law_) cfL_ok (fun _ _ _ _ _ k => k) _ _ _ _ _ _ oL_law__2028 hr
def bL_law__2035 : List OP := [(.iload 6, 2, (6, 0, 0), vU), (.ifCond .ne 15, 3, (2052, 0, 0), vU), (.aload_n 3, 1, (3, 0, 0), vU), (.iconst 0, 1, (0, 0, 0), vI 0), (.laload, 1, (0, 0, 0), vU), (.iload 7, 2, (7, 0, 0), vU), (.i2l, 1, (0, 0, 0), vU), (.lcmp, 1, (0, 0, 0), vU), (.ifCond .eq 5, 3, (2052, 0, 0), vU), (.iconst 0, 1, (0, 0, 0), vI 0), (.ireturn, 1, (0, 0, 0), vU)]
theorem oL_law__2035 : okAt mL_law_ bL_law__2035 2035 = true := by decide +kernel
theorem rL_law__2035 {g : Gp} {Q : PQ} {L st : List AV} {h : AH} {u : Nat × Nat} (hr : run mL_law_ Q (fun pc L st h u => Ex g mL_law_ pc L st h u Q) bL_law__2035 2035 L st h u) : Ex g mL_law_ 2035 L st h u Q := run_ok (M := mL_law_) cfL_ok (fun _ _ _ _ _ k => k) _ _ _ _ _ _ oL_law__2035 hr
def bL_law__2052 : List OP := [(.goto 284, 3, (2336, 0, 0), vU)]
theorem oL_law__2052 : okAt mL_law_ bL_law__2052 2052 = true := by decide +kernel
theorem rL_law__2052 {g : Gp} {Q : PQ} {L st : List AV} {h : AH} {u : Nat × Nat} (hr : run mL_law_ Q (fun pc L st h u => Ex g mL_law_ pc L st h u Q) bL_law__2052 2052 L st h u) : Ex g mL_law_ 2052 L st h u Q := run_ok (M := mL_law_) cfL_ok (fun _ _ _ _ _ k => k) _ _ _ _ _ _ oL_law__2052 hr
theorem t_recalledWell {g : Gp} {Q : PQ} {h : AH} {u : Nat × Nat} {i : Nat} {c v : Int32} (ms : ModS h) (kd : Kd h) (e : zI h 99 0 = c) (hz : c = 0 → zL h 122 0 = v.toInt64) (hu : u.1 ≤ 20000 ∧ u.2 ≤ 900000) (K : Ex g mL_law_ 2336 (LW9 i) [] h u Q) : Ex g mL_law_ 2022 [vR 1, vR 4, vR 99, vR 122, vR 123, vI (nI i), vI c, vU, vU] [vI v] h u Q := by
  refine rL_law__2022 ?_
  simp only [bL_law__2022, run, Nat.reduceAdd, lg, st1, st2, lkill, lset, fvv, sfv, kind3, cat1, retI, retA, List.length_cons, List.length_nil, true_and, and_true, or_true, true_or, qL_law_]
  refine sL_law__2025 hu ms.1 (e_thrown ms ?_)
  simp only [cont, Option.toList, List.cons_append, List.nil_append]
  rw [e]
  refine rL_law__2028 ?_
  simp only [bL_law__2028, run, Nat.reduceAdd, lg, st1, st2, lkill, lset, fvv, sfv, kind3, cat1, retI, retA, List.length_cons, List.length_nil, true_and, and_true, or_true, true_or, qL_law_, not_true_eq_false, not_false_eq_true, false_implies, true_and, and_true, tti, not_true_eq_false, false_implies]
  by_cases c0 : c = 0
  · refine rL_law__2035 ?_
    simp only [bL_law__2035, run, Nat.reduceAdd, lg, st1, st2, lkill, lset, fvv, sfv, kind3, cat1, retI, retA, List.length_cons, List.length_nil, true_and, and_true, or_true, true_or, qL_law_, c0, kd.1, hz c0, lcmp_self, kL, kI, kD, kR, rL, rI, rD, iL, iD, iR, lI, lD, lR, show (Int32.toNatClampNeg 0) = 0 from rfl, not_true_eq_false, not_false_eq_true, false_implies, true_and, and_true, tti, not_true_eq_false, false_implies]
    refine ⟨vin01, ?_⟩
    refine rL_law__2052 ?_
    simp only [bL_law__2052, run, Nat.reduceAdd, lg, st1, st2, lkill, lset, fvv, sfv, kind3, cat1, retI, retA, List.length_cons, List.length_nil, true_and, and_true, or_true, true_or, qL_law_]
    exact Ex.fgt9 K
  · refine rL_law__2035 ?_
    simp only [bL_law__2035, run, Nat.reduceAdd, lg, st1, st2, lkill, lset, fvv, sfv, kind3, cat1, retI, retA, List.length_cons, List.length_nil, true_and, and_true, or_true, true_or, qL_law_, c0, not_true_eq_false, not_false_eq_true, false_implies, true_and, and_true, tti, not_false_eq_true, true_implies, false_implies]
    refine rL_law__2052 ?_
    simp only [bL_law__2052, run, Nat.reduceAdd, lg, st1, st2, lkill, lset, fvv, sfv, kind3, cat1, retI, retA, List.length_cons, List.length_nil, true_and, and_true, or_true, true_or, qL_law_]
    exact Ex.fgt9 K
theorem sL_law__2069 {g : Gp} {L rest : List AV} {h : AH} {u : Nat × Nat} {Q : PQ} {a1 a2 a3 a4 : AV} (hu : u.1 + 25 ≤ 20000 ∧ u.2 + 312 ≤ 900000) (ev : Ev g mL_swapped [a1, a2, a3, a4] h (cont g mL_law_ 2072 L rest (u.1 + 25, u.2 + 312) Q)) (hr : rest.length ≤ 4 := by exact Nat.le_of_ble_eq_true rfl) : Ex g mL_law_ 2069 L (a4 :: a3 :: a2 :: a1 :: rest) h u Q := Ex.callSW (av := [a1, a2, a3, a4]) rfl mL_swapped_ok rfl (by decide) lkL_214 smL_swapped (by decide) hu.1 hu.2 hr (by decide +kernel) ev (fun _ _ k => k) (fun _ _ z => z)
theorem sL_law__2087 {g : Gp} {L rest : List AV} {h : AH} {u : Nat × Nat} {Q : PQ} {x : Nat} {a1 a2 : AV} (hu : u.1 + 1 ≤ 20000 ∧ u.2 + 120 ≤ 900000) (hx : zK h x = (1, 10)) (ev : Ev g mX10_swapped (vR x :: [a1, a2]) h (cont g mL_law_ 2090 L rest (u.1 + 1, u.2 + 120) Q)) (hr : rest.length ≤ 4 := by exact Nat.le_of_ble_eq_true rfl) : Ex g mL_law_ 2087 L (a2 :: a1 :: vR x :: rest) h u Q := Ex.callV (av := [a1, a2]) (r := (RX10, TX10, 27)) rfl mX10_swapped_ok rfl lkL_216 imX10_swapped seX10_swapped rfl hx (by decide) hu.1 hu.2 hr (by decide +kernel) ev (fun _ _ k => k) (fun _ _ z => z)
theorem sL_law__2093 {g : Gp} {L rest : List AV} {h : AH} {u : Nat × Nat} {Q : PQ} {x : Nat}  (hu : u.1 + 0 ≤ 20000 ∧ u.2 + 0 ≤ 900000) (hx : zK h x = (1, 10)) (ev : Ev g mX10_thrown (vR x :: []) h (cont g mL_law_ 2096 L rest (u.1 + 0, u.2 + 0) Q)) (hr : rest.length ≤ 4 := by exact Nat.le_of_ble_eq_true rfl) : Ex g mL_law_ 2093 L (vR x :: rest) h u Q := Ex.callV (av := []) (r := (RX10, TX10, 27)) rfl mX10_thrown_ok rfl lkL_122 imX10_thrown seX10_thrown rfl hx (by decide) hu.1 hu.2 hr (by decide +kernel) ev (fun _ _ k => k) (fun _ _ z => z)
def bL_law__2072 : List OP := [(.istore 6, 2, (6, 0, 0), vU), (.aload_n 2, 1, (2, 0, 0), vU)]
theorem oL_law__2072 : okAt mL_law_ bL_law__2072 2072 = true := by decide +kernel
theorem rL_law__2072 {g : Gp} {Q : PQ} {L st : List AV} {h : AH} {u : Nat × Nat} (hr : run mL_law_ Q (fun pc L st h u => Ex g mL_law_ pc L st h u Q) bL_law__2072 2072 L st h u) : Ex g mL_law_ 2072 L st h u Q := run_ok (M := mL_law_) cfL_ok (fun _ _ _ _ _ k => k) _ _ _ _ _ _ oL_law__2072 hr
def bL_law__2090 : List OP := [(.istore 7, 2, (7, 0, 0), vU), (.aload_n 2, 1, (2, 0, 0), vU)]
theorem oL_law__2090 : okAt mL_law_ bL_law__2090 2090 = true := by decide +kernel
theorem rL_law__2090 {g : Gp} {Q : PQ} {L st : List AV} {h : AH} {u : Nat × Nat} (hr : run mL_law_ Q (fun pc L st h u => Ex g mL_law_ pc L st h u Q) bL_law__2090 2090 L st h u) : Ex g mL_law_ 2090 L st h u Q := run_ok (M := mL_law_) cfL_ok (fun _ _ _ _ _ k => k) _ _ _ _ _ _ oL_law__2090 hr
def bL_law__2096 : List OP := [(.iload 6, 2, (6, 0, 0), vU), (.if_icmp .eq 5, 3, (2103, 0, 0), vU), (.iconst 0, 1, (0, 0, 0), vI 0), (.ireturn, 1, (0, 0, 0), vU)]
theorem oL_law__2096 : okAt mL_law_ bL_law__2096 2096 = true := by decide +kernel
theorem rL_law__2096 {g : Gp} {Q : PQ} {L st : List AV} {h : AH} {u : Nat × Nat} (hr : run mL_law_ Q (fun pc L st h u => Ex g mL_law_ pc L st h u Q) bL_law__2096 2096 L st h u) : Ex g mL_law_ 2096 L st h u Q := run_ok (M := mL_law_) cfL_ok (fun _ _ _ _ _ k => k) _ _ _ _ _ _ oL_law__2096 hr
def bL_law__2103 : List OP := [(.iload 6, 2, (6, 0, 0), vU), (.ifCond .ne 15, 3, (2120, 0, 0), vU), (.aload_n 3, 1, (3, 0, 0), vU), (.iconst 0, 1, (0, 0, 0), vI 0), (.laload, 1, (0, 0, 0), vU), (.iload 7, 2, (7, 0, 0), vU), (.i2l, 1, (0, 0, 0), vU), (.lcmp, 1, (0, 0, 0), vU), (.ifCond .eq 5, 3, (2120, 0, 0), vU), (.iconst 0, 1, (0, 0, 0), vI 0), (.ireturn, 1, (0, 0, 0), vU)]
theorem oL_law__2103 : okAt mL_law_ bL_law__2103 2103 = true := by decide +kernel
theorem rL_law__2103 {g : Gp} {Q : PQ} {L st : List AV} {h : AH} {u : Nat × Nat} (hr : run mL_law_ Q (fun pc L st h u => Ex g mL_law_ pc L st h u Q) bL_law__2103 2103 L st h u) : Ex g mL_law_ 2103 L st h u Q := run_ok (M := mL_law_) cfL_ok (fun _ _ _ _ _ k => k) _ _ _ _ _ _ oL_law__2103 hr
def bL_law__2120 : List OP := [(.goto 216, 3, (2336, 0, 0), vU)]
theorem oL_law__2120 : okAt mL_law_ bL_law__2120 2120 = true := by decide +kernel
theorem rL_law__2120 {g : Gp} {Q : PQ} {L st : List AV} {h : AH} {u : Nat × Nat} (hr : run mL_law_ Q (fun pc L st h u => Ex g mL_law_ pc L st h u Q) bL_law__2120 2120 L st h u) : Ex g mL_law_ 2120 L st h u Q := run_ok (M := mL_law_) cfL_ok (fun _ _ _ _ _ k => k) _ _ _ _ _ _ oL_law__2120 hr
theorem t_swapped {g : Gp} {Q : PQ} {h : AH} {u : Nat × Nat} {i : Nat} {c v : Int32} (ms : ModS h) (kd : Kd h) (e : zI h 99 0 = c) (hz : c = 0 → zL h 122 0 = v.toInt64) (hu : u.1 ≤ 20000 ∧ u.2 ≤ 900000) (K : Ex g mL_law_ 2336 (LW9 i) [] h u Q) : Ex g mL_law_ 2090 [vR 1, vR 4, vR 99, vR 122, vR 123, vI (nI i), vI c, vU, vU] [vI v] h u Q := by
  refine rL_law__2090 ?_
  simp only [bL_law__2090, run, Nat.reduceAdd, lg, st1, st2, lkill, lset, fvv, sfv, kind3, cat1, retI, retA, List.length_cons, List.length_nil, true_and, and_true, or_true, true_or, qL_law_]
  refine sL_law__2093 hu ms.1 (e_thrown ms ?_)
  simp only [cont, Option.toList, List.cons_append, List.nil_append]
  rw [e]
  refine rL_law__2096 ?_
  simp only [bL_law__2096, run, Nat.reduceAdd, lg, st1, st2, lkill, lset, fvv, sfv, kind3, cat1, retI, retA, List.length_cons, List.length_nil, true_and, and_true, or_true, true_or, qL_law_, not_true_eq_false, not_false_eq_true, false_implies, true_and, and_true, tti, not_true_eq_false, false_implies]
  by_cases c0 : c = 0
  · refine rL_law__2103 ?_
    simp only [bL_law__2103, run, Nat.reduceAdd, lg, st1, st2, lkill, lset, fvv, sfv, kind3, cat1, retI, retA, List.length_cons, List.length_nil, true_and, and_true, or_true, true_or, qL_law_, c0, kd.1, hz c0, lcmp_self, kL, kI, kD, kR, rL, rI, rD, iL, iD, iR, lI, lD, lR, show (Int32.toNatClampNeg 0) = 0 from rfl, not_true_eq_false, not_false_eq_true, false_implies, true_and, and_true, tti, not_true_eq_false, false_implies]
    refine ⟨vin01, ?_⟩
    refine rL_law__2120 ?_
    simp only [bL_law__2120, run, Nat.reduceAdd, lg, st1, st2, lkill, lset, fvv, sfv, kind3, cat1, retI, retA, List.length_cons, List.length_nil, true_and, and_true, or_true, true_or, qL_law_]
    exact Ex.fgt9 K
  · refine rL_law__2103 ?_
    simp only [bL_law__2103, run, Nat.reduceAdd, lg, st1, st2, lkill, lset, fvv, sfv, kind3, cat1, retI, retA, List.length_cons, List.length_nil, true_and, and_true, or_true, true_or, qL_law_, c0, not_true_eq_false, not_false_eq_true, false_implies, true_and, and_true, tti, not_false_eq_true, true_implies, false_implies]
    refine rL_law__2120 ?_
    simp only [bL_law__2120, run, Nat.reduceAdd, lg, st1, st2, lkill, lset, fvv, sfv, kind3, cat1, retI, retA, List.length_cons, List.length_nil, true_and, and_true, or_true, true_or, qL_law_]
    exact Ex.fgt9 K
theorem sL_law__2137 {g : Gp} {L rest : List AV} {h : AH} {u : Nat × Nat} {Q : PQ} {a1 a2 a3 a4 : AV} (hu : u.1 + 23 ≤ 20000 ∧ u.2 + 291 ≤ 900000) (ev : Ev g mL_without [a1, a2, a3, a4] h (cont g mL_law_ 2140 L rest (u.1 + 23, u.2 + 291) Q)) (hr : rest.length ≤ 4 := by exact Nat.le_of_ble_eq_true rfl) : Ex g mL_law_ 2137 L (a4 :: a3 :: a2 :: a1 :: rest) h u Q := Ex.callSW (av := [a1, a2, a3, a4]) rfl mL_without_ok rfl (by decide) lkL_217 smL_without (by decide) hu.1 hu.2 hr (by decide +kernel) ev (fun _ _ k => k) (fun _ _ z => z)
theorem sL_law__2155 {g : Gp} {L rest : List AV} {h : AH} {u : Nat × Nat} {Q : PQ} {x : Nat} {a1 a2 : AV} (hu : u.1 + 1 ≤ 20000 ∧ u.2 + 120 ≤ 900000) (hx : zK h x = (1, 10)) (ev : Ev g mX10_without (vR x :: [a1, a2]) h (cont g mL_law_ 2158 L rest (u.1 + 1, u.2 + 120) Q)) (hr : rest.length ≤ 4 := by exact Nat.le_of_ble_eq_true rfl) : Ex g mL_law_ 2155 L (a2 :: a1 :: vR x :: rest) h u Q := Ex.callV (av := [a1, a2]) (r := (RX10, TX10, 27)) rfl mX10_without_ok rfl lkL_219 imX10_without seX10_without rfl hx (by decide) hu.1 hu.2 hr (by decide +kernel) ev (fun _ _ k => k) (fun _ _ z => z)
theorem sL_law__2161 {g : Gp} {L rest : List AV} {h : AH} {u : Nat × Nat} {Q : PQ} {x : Nat}  (hu : u.1 + 0 ≤ 20000 ∧ u.2 + 0 ≤ 900000) (hx : zK h x = (1, 10)) (ev : Ev g mX10_thrown (vR x :: []) h (cont g mL_law_ 2164 L rest (u.1 + 0, u.2 + 0) Q)) (hr : rest.length ≤ 4 := by exact Nat.le_of_ble_eq_true rfl) : Ex g mL_law_ 2161 L (vR x :: rest) h u Q := Ex.callV (av := []) (r := (RX10, TX10, 27)) rfl mX10_thrown_ok rfl lkL_122 imX10_thrown seX10_thrown rfl hx (by decide) hu.1 hu.2 hr (by decide +kernel) ev (fun _ _ k => k) (fun _ _ z => z)
def bL_law__2140 : List OP := [(.istore 6, 2, (6, 0, 0), vU), (.aload_n 2, 1, (2, 0, 0), vU)]
theorem oL_law__2140 : okAt mL_law_ bL_law__2140 2140 = true := by decide +kernel
theorem rL_law__2140 {g : Gp} {Q : PQ} {L st : List AV} {h : AH} {u : Nat × Nat} (hr : run mL_law_ Q (fun pc L st h u => Ex g mL_law_ pc L st h u Q) bL_law__2140 2140 L st h u) : Ex g mL_law_ 2140 L st h u Q := run_ok (M := mL_law_) cfL_ok (fun _ _ _ _ _ k => k) _ _ _ _ _ _ oL_law__2140 hr
def bL_law__2158 : List OP := [(.istore 7, 2, (7, 0, 0), vU), (.aload_n 2, 1, (2, 0, 0), vU)]
theorem oL_law__2158 : okAt mL_law_ bL_law__2158 2158 = true := by decide +kernel
theorem rL_law__2158 {g : Gp} {Q : PQ} {L st : List AV} {h : AH} {u : Nat × Nat} (hr : run mL_law_ Q (fun pc L st h u => Ex g mL_law_ pc L st h u Q) bL_law__2158 2158 L st h u) : Ex g mL_law_ 2158 L st h u Q := run_ok (M := mL_law_) cfL_ok (fun _ _ _ _ _ k => k) _ _ _ _ _ _ oL_law__2158 hr
def bL_law__2164 : List OP := [(.iload 6, 2, (6, 0, 0), vU), (.if_icmp .eq 5, 3, (2171, 0, 0), vU), (.iconst 0, 1, (0, 0, 0), vI 0), (.ireturn, 1, (0, 0, 0), vU)]
theorem oL_law__2164 : okAt mL_law_ bL_law__2164 2164 = true := by decide +kernel
theorem rL_law__2164 {g : Gp} {Q : PQ} {L st : List AV} {h : AH} {u : Nat × Nat} (hr : run mL_law_ Q (fun pc L st h u => Ex g mL_law_ pc L st h u Q) bL_law__2164 2164 L st h u) : Ex g mL_law_ 2164 L st h u Q := run_ok (M := mL_law_) cfL_ok (fun _ _ _ _ _ k => k) _ _ _ _ _ _ oL_law__2164 hr
def bL_law__2171 : List OP := [(.iload 6, 2, (6, 0, 0), vU), (.ifCond .ne 15, 3, (2188, 0, 0), vU), (.aload_n 3, 1, (3, 0, 0), vU), (.iconst 0, 1, (0, 0, 0), vI 0), (.laload, 1, (0, 0, 0), vU), (.iload 7, 2, (7, 0, 0), vU), (.i2l, 1, (0, 0, 0), vU), (.lcmp, 1, (0, 0, 0), vU), (.ifCond .eq 5, 3, (2188, 0, 0), vU), (.iconst 0, 1, (0, 0, 0), vI 0), (.ireturn, 1, (0, 0, 0), vU)]
theorem oL_law__2171 : okAt mL_law_ bL_law__2171 2171 = true := by decide +kernel
theorem rL_law__2171 {g : Gp} {Q : PQ} {L st : List AV} {h : AH} {u : Nat × Nat} (hr : run mL_law_ Q (fun pc L st h u => Ex g mL_law_ pc L st h u Q) bL_law__2171 2171 L st h u) : Ex g mL_law_ 2171 L st h u Q := run_ok (M := mL_law_) cfL_ok (fun _ _ _ _ _ k => k) _ _ _ _ _ _ oL_law__2171 hr
def bL_law__2188 : List OP := [(.goto 148, 3, (2336, 0, 0), vU)]
theorem oL_law__2188 : okAt mL_law_ bL_law__2188 2188 = true := by decide +kernel
theorem rL_law__2188 {g : Gp} {Q : PQ} {L st : List AV} {h : AH} {u : Nat × Nat} (hr : run mL_law_ Q (fun pc L st h u => Ex g mL_law_ pc L st h u Q) bL_law__2188 2188 L st h u) : Ex g mL_law_ 2188 L st h u Q := run_ok (M := mL_law_) cfL_ok (fun _ _ _ _ _ k => k) _ _ _ _ _ _ oL_law__2188 hr
theorem t_without {g : Gp} {Q : PQ} {h : AH} {u : Nat × Nat} {i : Nat} {c v : Int32} (ms : ModS h) (kd : Kd h) (e : zI h 99 0 = c) (hz : c = 0 → zL h 122 0 = v.toInt64) (hu : u.1 ≤ 20000 ∧ u.2 ≤ 900000) (K : Ex g mL_law_ 2336 (LW9 i) [] h u Q) : Ex g mL_law_ 2158 [vR 1, vR 4, vR 99, vR 122, vR 123, vI (nI i), vI c, vU, vU] [vI v] h u Q := by
  refine rL_law__2158 ?_
  simp only [bL_law__2158, run, Nat.reduceAdd, lg, st1, st2, lkill, lset, fvv, sfv, kind3, cat1, retI, retA, List.length_cons, List.length_nil, true_and, and_true, or_true, true_or, qL_law_]
  refine sL_law__2161 hu ms.1 (e_thrown ms ?_)
  simp only [cont, Option.toList, List.cons_append, List.nil_append]
  rw [e]
  refine rL_law__2164 ?_
  simp only [bL_law__2164, run, Nat.reduceAdd, lg, st1, st2, lkill, lset, fvv, sfv, kind3, cat1, retI, retA, List.length_cons, List.length_nil, true_and, and_true, or_true, true_or, qL_law_, not_true_eq_false, not_false_eq_true, false_implies, true_and, and_true, tti, not_true_eq_false, false_implies]
  by_cases c0 : c = 0
  · refine rL_law__2171 ?_
    simp only [bL_law__2171, run, Nat.reduceAdd, lg, st1, st2, lkill, lset, fvv, sfv, kind3, cat1, retI, retA, List.length_cons, List.length_nil, true_and, and_true, or_true, true_or, qL_law_, c0, kd.1, hz c0, lcmp_self, kL, kI, kD, kR, rL, rI, rD, iL, iD, iR, lI, lD, lR, show (Int32.toNatClampNeg 0) = 0 from rfl, not_true_eq_false, not_false_eq_true, false_implies, true_and, and_true, tti, not_true_eq_false, false_implies]
    refine ⟨vin01, ?_⟩
    refine rL_law__2188 ?_
    simp only [bL_law__2188, run, Nat.reduceAdd, lg, st1, st2, lkill, lset, fvv, sfv, kind3, cat1, retI, retA, List.length_cons, List.length_nil, true_and, and_true, or_true, true_or, qL_law_]
    exact Ex.fgt9 K
  · refine rL_law__2171 ?_
    simp only [bL_law__2171, run, Nat.reduceAdd, lg, st1, st2, lkill, lset, fvv, sfv, kind3, cat1, retI, retA, List.length_cons, List.length_nil, true_and, and_true, or_true, true_or, qL_law_, c0, not_true_eq_false, not_false_eq_true, false_implies, true_and, and_true, tti, not_false_eq_true, true_implies, false_implies]
    refine rL_law__2188 ?_
    simp only [bL_law__2188, run, Nat.reduceAdd, lg, st1, st2, lkill, lset, fvv, sfv, kind3, cat1, retI, retA, List.length_cons, List.length_nil, true_and, and_true, or_true, true_or, qL_law_]
    exact Ex.fgt9 K
theorem sL_law__2199 {g : Gp} {L rest : List AV} {h : AH} {u : Nat × Nat} {Q : PQ} {a1 a2 a3 : AV} (hu : u.1 + 15 ≤ 20000 ∧ u.2 + 191 ≤ 900000) (ev : Ev g mL_withoutLoan [a1, a2, a3] h (cont g mL_law_ 2202 L rest (u.1 + 15, u.2 + 191) Q)) (hr : rest.length ≤ 4 := by exact Nat.le_of_ble_eq_true rfl) : Ex g mL_law_ 2199 L (a3 :: a2 :: a1 :: rest) h u Q := Ex.callSW (av := [a1, a2, a3]) rfl mL_withoutLoan_ok rfl (by decide) lkL_220 smL_withoutLoan (by decide) hu.1 hu.2 hr (by decide +kernel) ev (fun _ _ k => k) (fun _ _ z => z)
theorem sL_law__2211 {g : Gp} {L rest : List AV} {h : AH} {u : Nat × Nat} {Q : PQ} {x : Nat} {a1 : AV} (hu : u.1 + 1 ≤ 20000 ∧ u.2 + 120 ≤ 900000) (hx : zK h x = (1, 10)) (ev : Ev g mX10_withoutLoan (vR x :: [a1]) h (cont g mL_law_ 2214 L rest (u.1 + 1, u.2 + 120) Q)) (hr : rest.length ≤ 4 := by exact Nat.le_of_ble_eq_true rfl) : Ex g mL_law_ 2211 L (a1 :: vR x :: rest) h u Q := Ex.callV (av := [a1]) (r := (RX10, TX10, 27)) rfl mX10_withoutLoan_ok rfl lkL_222 imX10_withoutLoan seX10_withoutLoan rfl hx (by decide) hu.1 hu.2 hr (by decide +kernel) ev (fun _ _ k => k) (fun _ _ z => z)
theorem sL_law__2217 {g : Gp} {L rest : List AV} {h : AH} {u : Nat × Nat} {Q : PQ} {x : Nat}  (hu : u.1 + 0 ≤ 20000 ∧ u.2 + 0 ≤ 900000) (hx : zK h x = (1, 10)) (ev : Ev g mX10_thrown (vR x :: []) h (cont g mL_law_ 2220 L rest (u.1 + 0, u.2 + 0) Q)) (hr : rest.length ≤ 4 := by exact Nat.le_of_ble_eq_true rfl) : Ex g mL_law_ 2217 L (vR x :: rest) h u Q := Ex.callV (av := []) (r := (RX10, TX10, 27)) rfl mX10_thrown_ok rfl lkL_122 imX10_thrown seX10_thrown rfl hx (by decide) hu.1 hu.2 hr (by decide +kernel) ev (fun _ _ k => k) (fun _ _ z => z)
def bL_law__2202 : List OP := [(.istore 6, 2, (6, 0, 0), vU), (.aload_n 2, 1, (2, 0, 0), vU)]
theorem oL_law__2202 : okAt mL_law_ bL_law__2202 2202 = true := by decide +kernel
theorem rL_law__2202 {g : Gp} {Q : PQ} {L st : List AV} {h : AH} {u : Nat × Nat} (hr : run mL_law_ Q (fun pc L st h u => Ex g mL_law_ pc L st h u Q) bL_law__2202 2202 L st h u) : Ex g mL_law_ 2202 L st h u Q := run_ok (M := mL_law_) cfL_ok (fun _ _ _ _ _ k => k) _ _ _ _ _ _ oL_law__2202 hr
def bL_law__2214 : List OP := [(.istore 7, 2, (7, 0, 0), vU), (.aload_n 2, 1, (2, 0, 0), vU)]
theorem oL_law__2214 : okAt mL_law_ bL_law__2214 2214 = true := by decide +kernel
theorem rL_law__2214 {g : Gp} {Q : PQ} {L st : List AV} {h : AH} {u : Nat × Nat} (hr : run mL_law_ Q (fun pc L st h u => Ex g mL_law_ pc L st h u Q) bL_law__2214 2214 L st h u) : Ex g mL_law_ 2214 L st h u Q := run_ok (M := mL_law_) cfL_ok (fun _ _ _ _ _ k => k) _ _ _ _ _ _ oL_law__2214 hr
def bL_law__2220 : List OP := [(.iload 6, 2, (6, 0, 0), vU), (.if_icmp .eq 5, 3, (2227, 0, 0), vU), (.iconst 0, 1, (0, 0, 0), vI 0), (.ireturn, 1, (0, 0, 0), vU)]
theorem oL_law__2220 : okAt mL_law_ bL_law__2220 2220 = true := by decide +kernel
theorem rL_law__2220 {g : Gp} {Q : PQ} {L st : List AV} {h : AH} {u : Nat × Nat} (hr : run mL_law_ Q (fun pc L st h u => Ex g mL_law_ pc L st h u Q) bL_law__2220 2220 L st h u) : Ex g mL_law_ 2220 L st h u Q := run_ok (M := mL_law_) cfL_ok (fun _ _ _ _ _ k => k) _ _ _ _ _ _ oL_law__2220 hr
def bL_law__2227 : List OP := [(.iload 6, 2, (6, 0, 0), vU), (.ifCond .ne 15, 3, (2244, 0, 0), vU), (.aload_n 3, 1, (3, 0, 0), vU), (.iconst 0, 1, (0, 0, 0), vI 0), (.laload, 1, (0, 0, 0), vU), (.iload 7, 2, (7, 0, 0), vU), (.i2l, 1, (0, 0, 0), vU), (.lcmp, 1, (0, 0, 0), vU), (.ifCond .eq 5, 3, (2244, 0, 0), vU), (.iconst 0, 1, (0, 0, 0), vI 0), (.ireturn, 1, (0, 0, 0), vU)]
theorem oL_law__2227 : okAt mL_law_ bL_law__2227 2227 = true := by decide +kernel
theorem rL_law__2227 {g : Gp} {Q : PQ} {L st : List AV} {h : AH} {u : Nat × Nat} (hr : run mL_law_ Q (fun pc L st h u => Ex g mL_law_ pc L st h u Q) bL_law__2227 2227 L st h u) : Ex g mL_law_ 2227 L st h u Q := run_ok (M := mL_law_) cfL_ok (fun _ _ _ _ _ k => k) _ _ _ _ _ _ oL_law__2227 hr
def bL_law__2244 : List OP := [(.goto 92, 3, (2336, 0, 0), vU)]
theorem oL_law__2244 : okAt mL_law_ bL_law__2244 2244 = true := by decide +kernel
theorem rL_law__2244 {g : Gp} {Q : PQ} {L st : List AV} {h : AH} {u : Nat × Nat} (hr : run mL_law_ Q (fun pc L st h u => Ex g mL_law_ pc L st h u Q) bL_law__2244 2244 L st h u) : Ex g mL_law_ 2244 L st h u Q := run_ok (M := mL_law_) cfL_ok (fun _ _ _ _ _ k => k) _ _ _ _ _ _ oL_law__2244 hr
theorem t_withoutLoan {g : Gp} {Q : PQ} {h : AH} {u : Nat × Nat} {i : Nat} {c v : Int32} (ms : ModS h) (kd : Kd h) (e : zI h 99 0 = c) (hz : c = 0 → zL h 122 0 = v.toInt64) (hu : u.1 ≤ 20000 ∧ u.2 ≤ 900000) (K : Ex g mL_law_ 2336 (LW9 i) [] h u Q) : Ex g mL_law_ 2214 [vR 1, vR 4, vR 99, vR 122, vR 123, vI (nI i), vI c, vU, vU] [vI v] h u Q := by
  refine rL_law__2214 ?_
  simp only [bL_law__2214, run, Nat.reduceAdd, lg, st1, st2, lkill, lset, fvv, sfv, kind3, cat1, retI, retA, List.length_cons, List.length_nil, true_and, and_true, or_true, true_or, qL_law_]
  refine sL_law__2217 hu ms.1 (e_thrown ms ?_)
  simp only [cont, Option.toList, List.cons_append, List.nil_append]
  rw [e]
  refine rL_law__2220 ?_
  simp only [bL_law__2220, run, Nat.reduceAdd, lg, st1, st2, lkill, lset, fvv, sfv, kind3, cat1, retI, retA, List.length_cons, List.length_nil, true_and, and_true, or_true, true_or, qL_law_, not_true_eq_false, not_false_eq_true, false_implies, true_and, and_true, tti, not_true_eq_false, false_implies]
  by_cases c0 : c = 0
  · refine rL_law__2227 ?_
    simp only [bL_law__2227, run, Nat.reduceAdd, lg, st1, st2, lkill, lset, fvv, sfv, kind3, cat1, retI, retA, List.length_cons, List.length_nil, true_and, and_true, or_true, true_or, qL_law_, c0, kd.1, hz c0, lcmp_self, kL, kI, kD, kR, rL, rI, rD, iL, iD, iR, lI, lD, lR, show (Int32.toNatClampNeg 0) = 0 from rfl, not_true_eq_false, not_false_eq_true, false_implies, true_and, and_true, tti, not_true_eq_false, false_implies]
    refine ⟨vin01, ?_⟩
    refine rL_law__2244 ?_
    simp only [bL_law__2244, run, Nat.reduceAdd, lg, st1, st2, lkill, lset, fvv, sfv, kind3, cat1, retI, retA, List.length_cons, List.length_nil, true_and, and_true, or_true, true_or, qL_law_]
    exact Ex.fgt9 K
  · refine rL_law__2227 ?_
    simp only [bL_law__2227, run, Nat.reduceAdd, lg, st1, st2, lkill, lset, fvv, sfv, kind3, cat1, retI, retA, List.length_cons, List.length_nil, true_and, and_true, or_true, true_or, qL_law_, c0, not_true_eq_false, not_false_eq_true, false_implies, true_and, and_true, tti, not_false_eq_true, true_implies, false_implies]
    refine rL_law__2244 ?_
    simp only [bL_law__2244, run, Nat.reduceAdd, lg, st1, st2, lkill, lset, fvv, sfv, kind3, cat1, retI, retA, List.length_cons, List.length_nil, true_and, and_true, or_true, true_or, qL_law_]
    exact Ex.fgt9 K
theorem sL_law__2261 {g : Gp} {L rest : List AV} {h : AH} {u : Nat × Nat} {Q : PQ} {a1 a2 a3 a4 : AV} (hu : u.1 + 1 ≤ 20000 ∧ u.2 + 6 ≤ 900000) (ev : Ev g mL_looksLent [a1, a2, a3, a4] h (cont g mL_law_ 2264 L rest (u.1 + 1, u.2 + 6) Q)) (hr : rest.length ≤ 4 := by exact Nat.le_of_ble_eq_true rfl) : Ex g mL_law_ 2261 L (a4 :: a3 :: a2 :: a1 :: rest) h u Q := Ex.callSW (av := [a1, a2, a3, a4]) rfl mL_looksLent_ok rfl (by decide) lkL_223 smL_looksLent (by decide) hu.1 hu.2 hr (by decide +kernel) ev (fun _ _ k => k) (fun _ _ z => z)
theorem sL_law__2279 {g : Gp} {L rest : List AV} {h : AH} {u : Nat × Nat} {Q : PQ} {x : Nat} {a1 a2 : AV} (hu : u.1 + 1 ≤ 20000 ∧ u.2 + 120 ≤ 900000) (hx : zK h x = (1, 10)) (ev : Ev g mX10_looksLent (vR x :: [a1, a2]) h (cont g mL_law_ 2282 L rest (u.1 + 1, u.2 + 120) Q)) (hr : rest.length ≤ 4 := by exact Nat.le_of_ble_eq_true rfl) : Ex g mL_law_ 2279 L (a2 :: a1 :: vR x :: rest) h u Q := Ex.callV (av := [a1, a2]) (r := (RX10, TX10, 27)) rfl mX10_looksLent_ok rfl lkL_225 imX10_looksLent seX10_looksLent rfl hx (by decide) hu.1 hu.2 hr (by decide +kernel) ev (fun _ _ k => k) (fun _ _ z => z)
theorem sL_law__2285 {g : Gp} {L rest : List AV} {h : AH} {u : Nat × Nat} {Q : PQ} {x : Nat}  (hu : u.1 + 0 ≤ 20000 ∧ u.2 + 0 ≤ 900000) (hx : zK h x = (1, 10)) (ev : Ev g mX10_thrown (vR x :: []) h (cont g mL_law_ 2288 L rest (u.1 + 0, u.2 + 0) Q)) (hr : rest.length ≤ 4 := by exact Nat.le_of_ble_eq_true rfl) : Ex g mL_law_ 2285 L (vR x :: rest) h u Q := Ex.callV (av := []) (r := (RX10, TX10, 27)) rfl mX10_thrown_ok rfl lkL_122 imX10_thrown seX10_thrown rfl hx (by decide) hu.1 hu.2 hr (by decide +kernel) ev (fun _ _ k => k) (fun _ _ z => z)
def bL_law__2264 : List OP := [(.istore 6, 2, (6, 0, 0), vU), (.aload_n 2, 1, (2, 0, 0), vU)]
theorem oL_law__2264 : okAt mL_law_ bL_law__2264 2264 = true := by decide +kernel
theorem rL_law__2264 {g : Gp} {Q : PQ} {L st : List AV} {h : AH} {u : Nat × Nat} (hr : run mL_law_ Q (fun pc L st h u => Ex g mL_law_ pc L st h u Q) bL_law__2264 2264 L st h u) : Ex g mL_law_ 2264 L st h u Q := run_ok (M := mL_law_) cfL_ok (fun _ _ _ _ _ k => k) _ _ _ _ _ _ oL_law__2264 hr
def bL_law__2282 : List OP := [(.istore 7, 2, (7, 0, 0), vU), (.aload_n 2, 1, (2, 0, 0), vU)]
theorem oL_law__2282 : okAt mL_law_ bL_law__2282 2282 = true := by decide +kernel
theorem rL_law__2282 {g : Gp} {Q : PQ} {L st : List AV} {h : AH} {u : Nat × Nat} (hr : run mL_law_ Q (fun pc L st h u => Ex g mL_law_ pc L st h u Q) bL_law__2282 2282 L st h u) : Ex g mL_law_ 2282 L st h u Q := run_ok (M := mL_law_) cfL_ok (fun _ _ _ _ _ k => k) _ _ _ _ _ _ oL_law__2282 hr
def bL_law__2288 : List OP := [(.iload 6, 2, (6, 0, 0), vU), (.if_icmp .eq 5, 3, (2295, 0, 0), vU), (.iconst 0, 1, (0, 0, 0), vI 0), (.ireturn, 1, (0, 0, 0), vU)]
theorem oL_law__2288 : okAt mL_law_ bL_law__2288 2288 = true := by decide +kernel
theorem rL_law__2288 {g : Gp} {Q : PQ} {L st : List AV} {h : AH} {u : Nat × Nat} (hr : run mL_law_ Q (fun pc L st h u => Ex g mL_law_ pc L st h u Q) bL_law__2288 2288 L st h u) : Ex g mL_law_ 2288 L st h u Q := run_ok (M := mL_law_) cfL_ok (fun _ _ _ _ _ k => k) _ _ _ _ _ _ oL_law__2288 hr
def bL_law__2295 : List OP := [(.iload 6, 2, (6, 0, 0), vU), (.ifCond .ne 22, 3, (2319, 0, 0), vU), (.aload_n 3, 1, (3, 0, 0), vU), (.iconst 0, 1, (0, 0, 0), vI 0), (.laload, 1, (0, 0, 0), vU), (.iload 7, 2, (7, 0, 0), vU), (.ifCond .eq 7, 3, (2312, 0, 0), vU), (.lconst 1, 1, (0, 0, 0), vL 1), (.goto 4, 3, (2313, 0, 0), vU), (.lcmp, 1, (0, 0, 0), vU), (.ifCond .eq 5, 3, (2319, 0, 0), vU), (.iconst 0, 1, (0, 0, 0), vI 0), (.ireturn, 1, (0, 0, 0), vU)]
theorem oL_law__2295 : okAt mL_law_ bL_law__2295 2295 = true := by decide +kernel
theorem rL_law__2295 {g : Gp} {Q : PQ} {L st : List AV} {h : AH} {u : Nat × Nat} (hr : run mL_law_ Q (fun pc L st h u => Ex g mL_law_ pc L st h u Q) bL_law__2295 2295 L st h u) : Ex g mL_law_ 2295 L st h u Q := run_ok (M := mL_law_) cfL_ok (fun _ _ _ _ _ k => k) _ _ _ _ _ _ oL_law__2295 hr
def bL_law__2319 : List OP := [(.goto 17, 3, (2336, 0, 0), vU)]
theorem oL_law__2319 : okAt mL_law_ bL_law__2319 2319 = true := by decide +kernel
theorem rL_law__2319 {g : Gp} {Q : PQ} {L st : List AV} {h : AH} {u : Nat × Nat} (hr : run mL_law_ Q (fun pc L st h u => Ex g mL_law_ pc L st h u Q) bL_law__2319 2319 L st h u) : Ex g mL_law_ 2319 L st h u Q := run_ok (M := mL_law_) cfL_ok (fun _ _ _ _ _ k => k) _ _ _ _ _ _ oL_law__2319 hr
def bL_law__2312 : List OP := [(.lconst 0, 1, (0, 0, 0), vL 0), (.lcmp, 1, (0, 0, 0), vU), (.ifCond .eq 5, 3, (2319, 0, 0), vU), (.iconst 0, 1, (0, 0, 0), vI 0), (.ireturn, 1, (0, 0, 0), vU)]
theorem oL_law__2312 : okAt mL_law_ bL_law__2312 2312 = true := by decide +kernel
theorem rL_law__2312 {g : Gp} {Q : PQ} {L st : List AV} {h : AH} {u : Nat × Nat} (hr : run mL_law_ Q (fun pc L st h u => Ex g mL_law_ pc L st h u Q) bL_law__2312 2312 L st h u) : Ex g mL_law_ 2312 L st h u Q := run_ok (M := mL_law_) cfL_ok (fun _ _ _ _ _ k => k) _ _ _ _ _ _ oL_law__2312 hr
theorem t_looksLent {g : Gp} {Q : PQ} {h : AH} {u : Nat × Nat} {i : Nat} {c v : Int32} (ms : ModS h) (kd : Kd h) (e : zI h 99 0 = c) (hz : c = 0 → zL h 122 0 = v.toInt64) (hb : v = 0 ∨ v = 1) (hu : u.1 ≤ 20000 ∧ u.2 ≤ 900000) (K : Ex g mL_law_ 2336 (LW9 i) [] h u Q) : Ex g mL_law_ 2282 [vR 1, vR 4, vR 99, vR 122, vR 123, vI (nI i), vI c, vU, vU] [vI v] h u Q := by
  refine rL_law__2282 ?_
  simp only [bL_law__2282, run, Nat.reduceAdd, lg, st1, st2, lkill, lset, fvv, sfv, kind3, cat1, retI, retA, List.length_cons, List.length_nil, true_and, and_true, or_true, true_or, qL_law_]
  refine sL_law__2285 hu ms.1 (e_thrown ms ?_)
  simp only [cont, Option.toList, List.cons_append, List.nil_append]
  rw [e]
  refine rL_law__2288 ?_
  simp only [bL_law__2288, run, Nat.reduceAdd, lg, st1, st2, lkill, lset, fvv, sfv, kind3, cat1, retI, retA, List.length_cons, List.length_nil, true_and, and_true, or_true, true_or, qL_law_, not_true_eq_false, not_false_eq_true, false_implies, true_and, and_true, tti, not_true_eq_false, false_implies]
  by_cases c0 : c = 0
  · have zz := hz c0
    rcases hb with rfl | rfl
    · refine rL_law__2295 ?_
      simp only [bL_law__2295, run, Nat.reduceAdd, lg, st1, st2, lkill, lset, fvv, sfv, kind3, cat1, retI, retA, List.length_cons, List.length_nil, true_and, and_true, or_true, true_or, qL_law_, c0, kd.1, zz, kL, kI, kD, kR, rL, rI, rD, iL, iD, iR, lI, lD, lR, show (Int32.toNatClampNeg 0) = 0 from rfl, show ((0 : Int32) = 0) = True by decide, not_true_eq_false, not_false_eq_true, false_implies, true_and, and_true, tti, not_true_eq_false, false_implies]
      refine ⟨vin01, ?_⟩
      refine rL_law__2312 ?_
      simp only [bL_law__2312, run, Nat.reduceAdd, lg, st1, st2, lkill, lset, fvv, sfv, kind3, cat1, retI, retA, List.length_cons, List.length_nil, true_and, and_true, or_true, true_or, qL_law_, show lg_cmp (Int32.toInt64 0) 0 = 0 by decide, not_true_eq_false, not_false_eq_true, false_implies, true_and, and_true, tti, not_true_eq_false, false_implies]
      refine rL_law__2319 ?_
      simp only [bL_law__2319, run, Nat.reduceAdd, lg, st1, st2, lkill, lset, fvv, sfv, kind3, cat1, retI, retA, List.length_cons, List.length_nil, true_and, and_true, or_true, true_or, qL_law_]
      exact Ex.fgt9 K
    · refine rL_law__2295 ?_
      simp only [bL_law__2295, run, Nat.reduceAdd, lg, st1, st2, lkill, lset, fvv, sfv, kind3, cat1, retI, retA, List.length_cons, List.length_nil, true_and, and_true, or_true, true_or, qL_law_, c0, kd.1, zz, kL, kI, kD, kR, rL, rI, rD, iL, iD, iR, lI, lD, lR, show (Int32.toNatClampNeg 0) = 0 from rfl, show ((1 : Int32) = 0) = False by decide, show lg_cmp (Int32.toInt64 1) 1 = 0 by decide, not_true_eq_false, not_false_eq_true, false_implies, true_and, and_true, tti, not_true_eq_false, false_implies]
      refine ⟨vin01, ?_⟩
      refine rL_law__2319 ?_
      simp only [bL_law__2319, run, Nat.reduceAdd, lg, st1, st2, lkill, lset, fvv, sfv, kind3, cat1, retI, retA, List.length_cons, List.length_nil, true_and, and_true, or_true, true_or, qL_law_]
      exact Ex.fgt9 K
  · refine rL_law__2295 ?_
    simp only [bL_law__2295, run, Nat.reduceAdd, lg, st1, st2, lkill, lset, fvv, sfv, kind3, cat1, retI, retA, List.length_cons, List.length_nil, true_and, and_true, or_true, true_or, qL_law_, c0, not_true_eq_false, not_false_eq_true, false_implies, true_and, and_true, tti, not_false_eq_true, true_implies, false_implies]
    refine rL_law__2319 ?_
    simp only [bL_law__2319, run, Nat.reduceAdd, lg, st1, st2, lkill, lset, fvv, sfv, kind3, cat1, retI, retA, List.length_cons, List.length_nil, true_and, and_true, or_true, true_or, qL_law_]
    exact Ex.fgt9 K
theorem sL_law__2323 {g : Gp} {L rest : List AV} {h : AH} {u : Nat × Nat} {Q : PQ} {x : Nat}  (hu : u.1 + 0 ≤ 20000 ∧ u.2 + 0 ≤ 900000) (hx : zK h x = (1, 9)) (ev : Ev g mX9_digest (vR x :: []) h (cont g mL_law_ 2326 L rest (u.1 + 0, u.2 + 0) Q)) (hr : rest.length ≤ 4 := by exact Nat.le_of_ble_eq_true rfl) : Ex g mL_law_ 2323 L (vR x :: rest) h u Q := Ex.callV (av := []) (r := (RX9, TX9, 10)) rfl mX9_digest_ok rfl lkL_226 imX9_digest seX9_digest rfl hx (by decide) hu.1 hu.2 hr (by decide +kernel) ev (fun _ _ k => k) (fun _ _ z => z)
theorem sL_law__2327 {g : Gp} {L rest : List AV} {h : AH} {u : Nat × Nat} {Q : PQ} {x : Nat}  (hu : u.1 + 2 ≤ 20000 ∧ u.2 + 1320 ≤ 900000) (hx : zK h x = (1, 10)) (ev : Ev g mX10_digest (vR x :: []) h (cont g mL_law_ 2330 L rest (u.1 + 2, u.2 + 1320) Q)) (hr : rest.length ≤ 4 := by exact Nat.le_of_ble_eq_true rfl) : Ex g mL_law_ 2327 L (vR x :: rest) h u Q := Ex.callV (av := []) (r := (RX10, TX10, 27)) rfl mX10_digest_ok rfl lkL_230 imX10_digest seX10_digest rfl hx (by decide) hu.1 hu.2 hr (by decide +kernel) ev (fun _ _ k => k) (fun _ _ z => z)
def bL_law__2330 : List OP := [(.lcmp, 1, (0, 0, 0), vU), (.ifCond .eq 5, 3, (2336, 0, 0), vU), (.iconst 0, 1, (0, 0, 0), vI 0), (.ireturn, 1, (0, 0, 0), vU)]
theorem oL_law__2330 : okAt mL_law_ bL_law__2330 2330 = true := by decide +kernel
theorem rL_law__2330 {g : Gp} {Q : PQ} {L st : List AV} {h : AH} {u : Nat × Nat} (hr : run mL_law_ Q (fun pc L st h u => Ex g mL_law_ pc L st h u Q) bL_law__2330 2330 L st h u) : Ex g mL_law_ 2330 L st h u Q := run_ok (M := mL_law_) cfL_ok (fun _ _ _ _ _ k => k) _ _ _ _ _ _ oL_law__2330 hr
