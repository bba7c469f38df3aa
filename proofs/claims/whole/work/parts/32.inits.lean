/-! ===== what the constructors make ===== -/
theorem zK_nwE {h : AH} {kd : Nat × Nat} {b : Nat} : zK (nw h kd) b = if b = zN h then kd else zK h b := rfl
theorem zI_nwE {h : AH} {kd : Nat × Nat} {b : Nat} : zI (nw h kd) b = if b = zN h then (fun _ => 0) else zI h b := rfl
theorem zL_nwE {h : AH} {kd : Nat × Nat} {b : Nat} : zL (nw h kd) b = if b = zN h then (fun _ => 0) else zL h b := rfl
theorem zR_nwE {h : AH} {kd : Nat × Nat} {b : Nat} : zR (nw h kd) b = if b = zN h then (fun _ => 0) else zR h b := rfl
theorem zR_sRE {h : AH} {a k v b : Nat} : zR (sR h a k v) b = if b = a then up1 (zR h a) k v else zR h b := rfl
theorem zI_sIE {h : AH} {a k b : Nat} {v : Int32} : zI (sI h a k v) b = if b = a then up1 (zI h a) k v else zI h b := rfl
theorem zN_nw {h : AH} {kd : Nat × Nat} : zN (nw h kd) = zN h + 1 := rfl
theorem zN_sR {h : AH} {a k v : Nat} : zN (sR h a k v) = zN h := rfl
theorem zN_sI {h : AH} {a k : Nat} {v : Int32} : zN (sI h a k v) = zN h := rfl
theorem zN_sL {h : AH} {a k : Nat} {v : Int64} : zN (sL h a k v) = zN h := rfl
theorem e_votesInit {g : Gp} {c : Nat} {h : AH} {Q : PQ} (hc : zK h c = (1, 8)) (hq : ∀ h', zN h' = zN h + 1 → Kp (fun b => b = c) h h' → zR h' c 0 = zN h → zK h' (zN h) = (2, 17) → Q (.inl none) h') : Ev g mX7_init [vR c] h Q := by
  refine nX7_init ?_
  refine Ex.wf (fun w => ?_)
  have hl := w.lt hc (by decide)
  have h4 := w.ge hc (by decide)
  refine rX7_init_0 ?_
  simp only [bX7_init_0, run, Nat.reduceAdd, lg, st1, st2, lkill, lset, fvv, sfv, kind3, cat1, retI, retA, List.length_cons, List.length_nil, true_and, and_true, or_true, true_or, qX7_init]
  refine sX7_init_1 (by omega) ?_
  have k1 : zK (nw h (2, 17)) c = (1, 8) := by rw [zK_nwE, if_neg (by omega)]; exact hc
  refine rX7_init_4 ?_
  simp only [bX7_init_4, run, Nat.reduceAdd, lg, st1, st2, lkill, lset, fvv, sfv, kind3, cat1, retI, retA, List.length_cons, List.length_nil, true_and, and_true, or_true, true_or, qX7_init, show (17 : Int32).toNatClampNeg = 17 by decide, k1, kL, kI, kD, kR, rL, rI, rD, iL, iD, iR, lI, lD, lR, not_true_eq_false, not_false_eq_true, false_implies, true_and, and_true, tti]
  refine ⟨by decide, by decide, by decide, by decide, hq _ rfl ((Kp.nw (S := fun b => b = c)).tr (Kp.sR rfl)) ?_ ?_⟩
  · simp only [zR_sR, up1_s]
  · simp only [kL, kI, kD, kR, rL, rI, rD, iL, iD, iR, lI, lD, lR, zK_nwE, if_pos]
theorem e_lexInit {g : Gp} {c a1 a2 a3 : Nat} {h : AH} {Q : PQ} (hc : zK h c = (1, 5)) (hq : ∀ h', zN h' = zN h + 4 → Kp (fun b => b = c) h h' → zR h' c 0 = a1 → zR h' c 1 = a2 → zR h' c 2 = a3 → zR h' c 3 = zN h → zR h' c 4 = zN h + 1 → zR h' c 5 = zN h + 2 → zR h' c 6 = zN h + 3 → zK h' (zN h) = (3, 120) → zK h' (zN h + 1) = (2, 120) → zK h' (zN h + 2) = (2, 120) → zK h' (zN h + 3) = (4, 12) → (∀ j, zI h' (zN h + 3) j = 0) → Q (.inl none) h') : Ev g mX4_init [vR c, vR a1, vR a2, vR a3] h Q := by
  refine nX4_init ?_
  refine Ex.wf (fun w => ?_)
  have hl := w.lt hc (by decide)
  have h4 := w.ge hc (by decide)
  refine rX4_init_0 ?_
  simp only [bX4_init_0, run, Nat.reduceAdd, lg, st1, st2, lkill, lset, fvv, sfv, kind3, cat1, retI, retA, List.length_cons, List.length_nil, true_and, and_true, or_true, true_or, qX4_init]
  refine sX4_init_1 (by omega) ?_
  have e0 : (c = zN h) = False := eq_false (by omega)
  have e1 : (c = zN h + 1) = False := eq_false (by omega)
  have e2 : (c = zN h + 1 + 1) = False := eq_false (by omega)
  have e3 : (c = zN h + 1 + 1 + 1) = False := eq_false (by omega)
  refine rX4_init_4 ?_
  simp only [bX4_init_4, run, Nat.reduceAdd, lg, st1, st2, lkill, lset, fvv, sfv, kind3, cat1, retI, retA, List.length_cons, List.length_nil, true_and, and_true, or_true, true_or, qX4_init, show (120 : Int32).toNatClampNeg = 120 by decide, show (12 : Int32).toNatClampNeg = 12 by decide, kL, kI, kD, kR, rL, rI, rD, iL, iD, iR, lI, lD, lR, zN_nw, zN_sR, zK_nwE, e0, e1, e2, e3, if_false, hc, not_true_eq_false, not_false_eq_true, false_implies, true_and, and_true, tti]
  refine ⟨by decide, by decide, by decide, by decide, by decide, by decide, by decide, by decide, by decide, by decide, by decide, by decide, by decide, by decide, by decide, by decide, ?_⟩
  have kp : Kp (fun b => b = c) h _ := (((((((((((Kp.nw (S := fun b => b = c) (h := h) (kd := (3, 120))).tr (Kp.sR (a := c) (k := 3) (v := zN h) rfl)).tr (Kp.nw (kd := (2, 120)))).tr (Kp.sR (a := c) (k := 4) (v := zN h + 1) rfl)).tr (Kp.nw (kd := (2, 120)))).tr (Kp.sR (a := c) (k := 5) (v := zN h + 1 + 1) rfl)).tr (Kp.nw (kd := (4, 12)))).tr (Kp.sR (a := c) (k := 6) (v := zN h + 1 + 1 + 1) rfl)).tr (Kp.sR (a := c) (k := 0) (v := a1) rfl)).tr (Kp.sR (a := c) (k := 1) (v := a2) rfl)).tr (Kp.sR (a := c) (k := 2) (v := a3) rfl))
  refine hq _ rfl kp ?_ ?_ ?_ ?_ ?_ ?_ ?_ ?_ ?_ ?_ ?_ ?_
  all_goals (try intro j)
  all_goals (simp [kL, kI, kD, kR, rL, rI, rD, iL, iD, iR, lI, lD, lR, iR, zR_sRE, zR_nwE, zK_nwE, zI_nwE, zN_nw, zN_sR, e0, e1, e2, e3, up1])
  all_goals (repeat first | rw [if_neg (by omega)] | rw [if_pos (by omega)])
theorem zK_nwm {h : AH} {n k b : Nat} : zK (nwm h n k) b = if b = zN h then (8, n) else if zN h < b ∧ b < zN h + 1 + n then (2, k) else zK h b := rfl
theorem zR_nwm {h : AH} {n k j : Nat} (hj : j < n) : zR (nwm h n k) (zN h) j = zN h + 1 + j := by
  show (if zN h = h.1 then (fun j => if j < n then h.1 + 1 + j else 0) else _) j = _
  rw [if_pos (show zN h = h.1 from rfl)]
  exact if_pos hj
theorem zI_nwm {h : AH} {n k b : Nat} (hb : zN h ≤ b) : zI (nwm h n k) b = fun _ => 0 := if_pos hb
theorem zN_nwm {h : AH} {n k : Nat} : zN (nwm h n k) = zN h + 1 + n := rfl
theorem Kp.nwm {S : Nat → Prop} {h : AH} {n k : Nat} : Kp S h (nwm h n k) := by
  refine ⟨by rw [zN_nwm]; omega, fun a ha => by rw [zK_nwm, if_neg (by omega), if_neg (by omega)], fun a ha _ => ⟨?_, ?_, ?_, ?_⟩⟩
  · exact if_neg (show ¬ h.1 ≤ a from Nat.not_le.mpr ha)
  · exact if_neg (show ¬ h.1 ≤ a from Nat.not_le.mpr ha)
  · exact if_neg (show ¬ h.1 ≤ a from Nat.not_le.mpr ha)
  · exact (if_neg (show ¬ a = h.1 from Nat.ne_of_lt ha)).trans (if_neg (show ¬ h.1 ≤ a from Nat.not_le.mpr ha))
theorem wf_nwm {h : AH} {n k : Nat} (w : Wf h) : Wf (nwm h n k) := by
  have w1 := w.1
  refine ⟨by rw [zN_nwm]; omega, fun a ha => ?_⟩
  rw [zN_nwm] at ha
  rw [zK_nwm, if_neg (by omega), if_neg (by omega)]
  exact w.2 a (by omega)
theorem ln_aoI : Cond.arrayOver (.array .int) ∈ lw_n := ln_mem (by decide +kernel) rfl
theorem lg_acI : Cond.arrayClass .int ∈ lw_g := lg_mem (by decide +kernel) rfl
theorem e_alInit {g : Gp} {c a1 : Nat} {h : AH} {Q : PQ} (hc : zK h c = (1, 1)) (hq : ∀ h', zN h' = zN h + 16 → Kp (fun b => b = c) h h' → zR h' c 0 = a1 → zR h' c 1 = zN h → zR h' c 2 = zN h + 1 → zR h' c 5 = zN h + 2 → zR h' c 6 = zN h + 14 → zR h' c 7 = zN h + 15 → zK h' (zN h) = (2, 10) → zK h' (zN h + 1) = (2, 10) → zK h' (zN h + 2) = (8, 11) → zK h' (zN h + 14) = (2, 20) → zK h' (zN h + 15) = (2, 20) → (∀ i, i < 11 → zR h' (zN h + 2) i = zN h + 3 + i ∧ zK h' (zN h + 3 + i) = (2, 11)) → Q (.inl none) h') : Ev g mX0_init [vR c, vR a1] h Q := by
  refine nX0_init ?_
  refine Ex.wf (fun w => ?_)
  have hl := w.lt hc (by decide)
  have h4 := w.ge hc (by decide)
  refine rX0_init_0 ?_
  simp only [bX0_init_0, run, Nat.reduceAdd, lg, st1, st2, lkill, lset, fvv, sfv, kind3, cat1, retI, retA, List.length_cons, List.length_nil, true_and, and_true, or_true, true_or, qX0_init]
  refine sX0_init_1 (by omega) ?_
  have e0 : (c = zN h) = False := eq_false (by omega)
  have e1 : (c = zN h + 1) = False := eq_false (by omega)
  refine rX0_init_4 ?_
  simp only [bX0_init_4, run, Nat.reduceAdd, lg, st1, st2, lkill, lset, fvv, sfv, kind3, cat1, retI, retA, List.length_cons, List.length_nil, true_and, and_true, or_true, true_or, qX0_init, show (10 : Int32).toNatClampNeg = 10 by decide, kL, kI, kD, kR, rL, rI, rD, iL, iD, iR, lI, lD, lR, zN_nw, zN_sR, zK_nwE, e0, e1, if_false, hc, not_true_eq_false, not_false_eq_true, false_implies, true_and, and_true, tti]
  refine ⟨by decide, by decide, by decide, by decide, by decide, by decide, by decide, by decide, ?_⟩
  have kp1 : Kp (fun b => b = c) h (sR (nw (sR (nw h (2, 10)) c 1 (zN h)) (2, 10)) c 2 (zN h + 1)) := ((((Kp.nw (S := fun b => b = c) (h := h) (kd := (2, 10))).tr (Kp.sR (a := c) (k := 1) (v := zN h) rfl)).tr (Kp.nw (kd := (2, 10)))).tr (Kp.sR (a := c) (k := 2) (v := zN h + 1) rfl))
  have r1 : zR (sR (nw (sR (nw h (2, 10)) c 1 (zN h)) (2, 10)) c 2 (zN h + 1)) c 1 = zN h := by simp [zR_sRE, zR_nwE, zN_nw, zN_sR, e0, e1, up1]
  have r2 : zR (sR (nw (sR (nw h (2, 10)) c 1 (zN h)) (2, 10)) c 2 (zN h + 1)) c 2 = zN h + 1 := by simp [zR_sRE, zR_nwE, zN_nw, zN_sR, e0, e1, up1]
  have k1 : zK (sR (nw (sR (nw h (2, 10)) c 1 (zN h)) (2, 10)) c 2 (zN h + 1)) (zN h) = (2, 10) := by rw [kR, zK_nwE, if_neg (by show ¬ zN h = zN h + 1; omega), kR, zK_nwE, if_pos rfl]
  have k2 : zK (sR (nw (sR (nw h (2, 10)) c 1 (zN h)) (2, 10)) c 2 (zN h + 1)) (zN h + 1) = (2, 10) := by rw [kR, zK_nwE]; exact if_pos rfl
  have n1 : zN (sR (nw (sR (nw h (2, 10)) c 1 (zN h)) (2, 10)) c 2 (zN h + 1)) = zN h + 2 := rfl
  have w1 : Wf (sR (nw (sR (nw h (2, 10)) c 1 (zN h)) (2, 10)) c 2 (zN h + 1)) := wf_nw (h := sR (nw h (2, 10)) c 1 (zN h)) (wf_nw (h := h) w)
  generalize sR (nw (sR (nw h (2, 10)) c 1 (zN h)) (2, 10)) c 2 (zN h + 1) = h1 at kp1 r1 r2 k1 k2 n1 w1 ⊢
  refine x_mna (i := 18) (N := 11) (K := 11) (lg_mem (by decide +kernel) rfl) ln_aoI lg_acI (by decide) (by decide) (by decide) (by decide) (by decide) (by decide) (by decide) (by decide) (by decide +kernel) ?_
  have kp2 : Kp (fun b => b = c) h (nwm h1 11 11) := kp1.tr Kp.nwm
  have n2 : zN (nwm h1 11 11) = zN h + 14 := by rw [zN_nwm, n1]
  have w2 := wf_nwm (n := 11) (k := 11) w1
  have c1 : c < zN h1 := by omega
  have sm := (Kp.nwm (S := fun _ => False) (h := h1) (n := 11) (k := 11))
  have r1' : zR (nwm h1 11 11) c 1 = zN h := by rw [(sm.2.2 c c1 id).2.2.2]; exact r1
  have r2' : zR (nwm h1 11 11) c 2 = zN h + 1 := by rw [(sm.2.2 c c1 id).2.2.2]; exact r2
  have k1' : zK (nwm h1 11 11) (zN h) = (2, 10) := (sm.2.1 _ (by omega)).trans k1
  have k2' : zK (nwm h1 11 11) (zN h + 1) = (2, 10) := (sm.2.1 _ (by omega)).trans k2
  have k3' : zK (nwm h1 11 11) (zN h + 2) = (8, 11) := by rw [zK_nwm, if_pos n1.symm]
  have k4' : ∀ i, i < 11 → zR (nwm h1 11 11) (zN h + 2) i = zN h + 3 + i ∧ zK (nwm h1 11 11) (zN h + 3 + i) = (2, 11) := fun i hi => by
    refine ⟨?_, by rw [zK_nwm, if_neg (by omega), if_pos (by omega)]⟩
    rw [← n1, zR_nwm hi]
    omega
  have kc' : zK (nwm h1 11 11) c = (1, 1) := (kp2.2.1 c hl).trans hc
  rw [n1]
  generalize nwm h1 11 11 = h2 at kp2 n2 w2 r1' r2' k1' k2' k3' k4' kc' ⊢
  have e4 : (c = zN h + 14) = False := eq_false (by omega)
  have e5 : (c = zN h + 14 + 1) = False := eq_false (by omega)
  have kp3 : Kp (fun b => b = c) h (sR (sR (nw (sR (nw (sR h2 c 5 (zN h + 2)) (2, 20)) c 6 (zN h + 14)) (2, 20)) c 7 (zN h + 14 + 1)) c 0 a1) :=
    ((((((kp2.tr (Kp.sR (a := c) (k := 5) (v := zN h + 2) rfl)).tr (Kp.nw (kd := (2, 20)))).tr (Kp.sR (a := c) (k := 6) (v := zN h + 14) rfl)).tr (Kp.nw (kd := (2, 20)))).tr (Kp.sR (a := c) (k := 7) (v := zN h + 14 + 1) rfl)).tr (Kp.sR (a := c) (k := 0) (v := a1) rfl))
  refine rX0_init_29 ?_
  simp only [bX0_init_29, run, Nat.reduceAdd, lg, st1, st2, lkill, lset, fvv, sfv, kind3, cat1, retI, retA, List.length_cons, List.length_nil, true_and, and_true, or_true, true_or, qX0_init, show (20 : Int32).toNatClampNeg = 20 by decide, kL, kI, kD, kR, rL, rI, rD, iL, iD, iR, lI, lD, lR, zN_nw, zN_sR, zK_nwE, n2, e4, e5, if_false, kc', not_true_eq_false, not_false_eq_true, false_implies, true_and, and_true, tti]
  refine ⟨by decide, by decide, by decide, by decide, by decide, by decide, by decide, by decide, ?_⟩
  refine hq _ (by simp only [zN_nw, zN_sR, n2]) kp3 ?_ ?_ ?_ ?_ ?_ ?_ ?_ ?_ ?_ ?_ ?_ ?_
  all_goals (try intro i hi)
  all_goals (simp only [kL, kI, kD, kR, rL, rI, rD, iL, iD, iR, lI, lD, lR, zR_sRE, zR_nwE, zK_nwE, zN_nw, zN_sR, n2, e4, e5, if_false, if_true, up1_s])
  all_goals (try simp [up1, r1', r2'])
  all_goals (repeat first | rw [if_neg (by omega)] | rw [if_pos (by omega)])
  all_goals first | exact k1' | exact k2' | exact k3' | exact k4' i hi
theorem e_soundsInit {g : Gp} {h : AH} {Q : PQ} (hc : zK h 5 = (1, 7)) (h6 : zN h = 6) (hq : ∀ h', zN h' = 24 → Kp (fun b => b = 5) h h' → Sn h' (fun _ => 0) → Q (.inl none) h') : Ev g mX6_init [vR 5] h Q := by
  refine nX6_init ?_
  refine Ex.wf (fun w => ?_)
  refine rX6_init_0 ?_
  simp only [bX6_init_0, run, Nat.reduceAdd, lg, st1, st2, lkill, lset, fvv, sfv, kind3, cat1, retI, retA, List.length_cons, List.length_nil, true_and, and_true, or_true, true_or, qX6_init]
  refine sX6_init_1 (by decide) ?_
  have e0 : ((5 : Nat) = 6) = False := eq_false (by omega)
  refine rX6_init_4 ?_
  simp only [bX6_init_4, run, Nat.reduceAdd, lg, st1, st2, lkill, lset, fvv, sfv, kind3, cat1, retI, retA, List.length_cons, List.length_nil, true_and, and_true, or_true, true_or, qX6_init, show (16 : Int32).toNatClampNeg = 16 by decide, kL, kI, kD, kR, rL, rI, rD, iL, iD, iR, lI, lD, lR, zN_nw, zN_sR, zK_nwE, h6, e0, if_false, hc, not_true_eq_false, not_false_eq_true, false_implies, true_and, and_true, tti]
  refine ⟨by decide, by decide, by decide, by decide, ?_⟩
  have w1 : Wf (sR (nw h (2, 16)) 5 0 6) := wf_nw (h := h) w
  have n1 : zN (sR (nw h (2, 16)) 5 0 6) = 7 := by rw [zN_sR, zN_nw, h6]
  refine x_mna (i := 15) (N := 16) (K := 16) (lg_mem (by decide +kernel) rfl) ln_aoI lg_acI (by decide) (by decide) (by decide) (by decide) (by decide) (by decide) (by decide) (by decide) (by decide +kernel) ?_
  have kp1 : Kp (fun b => b = 5) h (nwm (sR (nw h (2, 16)) 5 0 6) 16 16) := ((Kp.nw (S := fun b => b = 5) (h := h) (kd := (2, 16))).tr (Kp.sR (a := 5) (k := 0) (v := 6) rfl)).tr Kp.nwm
  have sm := (Kp.nwm (S := fun _ => False) (h := sR (nw h (2, 16)) 5 0 6) (n := 16) (k := 16))
  have q1 : zR (nwm (sR (nw h (2, 16)) 5 0 6) 16 16) 5 0 = 6 := by rw [(sm.2.2 5 (by omega) id).2.2.2, zR_sR, up1_s]
  have q2 : zK (nwm (sR (nw h (2, 16)) 5 0 6) 16 16) 6 = (2, 16) := by rw [sm.2.1 6 (by omega), kR, zK_nwE, h6, if_pos rfl]
  have q3 : zK (nwm (sR (nw h (2, 16)) 5 0 6) 16 16) 7 = (8, 16) := by rw [zK_nwm, n1, if_pos rfl]
  have q4 : ∀ i, i < 16 → zR (nwm (sR (nw h (2, 16)) 5 0 6) 16 16) 7 i = 8 + i ∧ zK (nwm (sR (nw h (2, 16)) 5 0 6) 16 16) (8 + i) = (2, 16) := fun i hi => by
    refine ⟨?_, by rw [zK_nwm, n1, if_neg (by omega), if_pos (by omega)]⟩
    have := zR_nwm (h := sR (nw h (2, 16)) 5 0 6) (n := 16) (k := 16) hi
    rw [n1] at this
    omega
  have q5 : zI (nwm (sR (nw h (2, 16)) 5 0 6) 16 16) 6 = fun _ => 0 := by rw [(sm.2.2 6 (by omega) id).1, iR, zI_nwE, h6, if_pos rfl]
  have q6 : zK (nwm (sR (nw h (2, 16)) 5 0 6) 16 16) 5 = (1, 7) := (kp1.2.1 5 (by omega)).trans hc
  have q7 : zN (nwm (sR (nw h (2, 16)) 5 0 6) 16 16) = 24 := by rw [zN_nwm, n1]
  rw [n1]
  generalize nwm (sR (nw h (2, 16)) 5 0 6) 16 16 = h2 at kp1 q1 q2 q3 q4 q5 q6 q7 ⊢
  refine rX6_init_21 ?_
  simp only [bX6_init_21, run, Nat.reduceAdd, lg, st1, st2, lkill, lset, fvv, sfv, kind3, cat1, retI, retA, List.length_cons, List.length_nil, true_and, and_true, or_true, true_or, qX6_init, q6, not_true_eq_false, not_false_eq_true, false_implies, true_and, and_true, tti]
  have lp : ∀ d k h3, k + d = 16 → zN h3 = 24 → zK h3 = zK h2 → zR h3 = zR (sR h2 5 1 7) → zI h3 6 = (fun _ => 0) → Kp (fun b => b = 5) h h3 → (∀ a t, a < k → t < 16 → zI h3 (8 + a) t = nI (cst (fun _ => 0) a t)) → Ex g mX6_init 26 [vR 5, vI (nI k)] [] h3 (18, 288) Q := by
    intro d
    induction d with
    | zero =>
      intro k h3 hk zn ek er e6 kp cs
      have e : k = 16 := by omega
      subst e
      refine rX6_init_26 ?_
      simp only [bX6_init_26, run, Nat.reduceAdd, lg, st1, st2, lkill, lset, fvv, sfv, kind3, cat1, retI, retA, List.length_cons, List.length_nil, true_and, and_true, or_true, true_or, qX6_init, show ((16 : Int32) ≤ nI 16) ↔ True from ⟨fun _ => trivial, fun _ => by decide⟩, not_true_eq_false, not_false_eq_true, false_implies, true_and, and_true, tti]
      refine rX6_init_57 ?_
      simp only [bX6_init_57, run, Nat.reduceAdd, lg, st1, st2, lkill, lset, fvv, sfv, kind3, cat1, retI, retA, List.length_cons, List.length_nil, true_and, and_true, or_true, true_or, qX6_init]
      refine hq _ zn kp ⟨by rw [ek]; exact q6, by rw [er, zR_sR, up1_n _ _ (by decide)]; exact q1, by rw [er, zR_sR, up1_s], by rw [ek]; exact q2, by rw [ek]; exact q3, fun a ha => ⟨by rw [er, zR_n (by decide)]; exact (q4 a ha).1, by rw [ek]; exact (q4 a ha).2, Nat.zero_lt_succ _, by rw [e6]; rfl, fun t ht => cs a t ha ht⟩⟩
    | succ d ih =>
      intro k h3 hk zn ek er e6 kp cs
      obtain ⟨c1, c2⟩ := q4 k (by omega)
      have nle : (16 : Int32) ≤ nI k ↔ False := ⟨nI_ge (b := 16) (by omega) (by omega), False.elim⟩
      have kk : (nI k).toNatClampNeg = k := nI_clamp (by omega)
      have r7 : zR (sR h2 5 1 7) 7 k = 8 + k := by rw [zR_n (by decide)]; exact c1
      have r5 : zR (sR h2 5 1 7) 5 1 = 7 := by rw [zR_sR, up1_s]
      refine rX6_init_26 ?_
      simp only [bX6_init_26, run, Nat.reduceAdd, lg, st1, st2, lkill, lset, fvv, sfv, kind3, cat1, retI, retA, List.length_cons, List.length_nil, true_and, and_true, or_true, true_or, qX6_init, nle, ek, er, q6, r5, q3, kk, r7, not_true_eq_false, not_false_eq_true, false_implies, true_and, and_true, tti]
      refine ⟨vp_in_nI (by omega) (by omega), sX6_init_39 (e_fill (by rw [ek]; exact c2) (by omega) (by decide) fun h4 k4 r4 l4 n4 kp4 z4 => ?_)⟩
      simp only [cont, Option.toList, List.cons_append, List.nil_append]
      refine rX6_init_42 ?_
      simp only [bX6_init_42, run, Nat.reduceAdd, lg, st1, st2, lkill, lset, fvv, sfv, kind3, cat1, retI, retA, List.length_cons, List.length_nil, true_and, and_true, or_true, true_or, qX6_init, k4, r4, ek, er, q6, r5, q3, kk, r7, c2, nI_1, not_true_eq_false, not_false_eq_true, false_implies, true_and, and_true, tti]
      have i4 : ∀ c, c ≠ 8 + k → c < 24 → zI (sI h4 (8 + k) k 0) c = zI h3 c := fun c hc hl => by rw [zI_n hc, (kp4.2.2 c (by omega) hc).1]
      refine ⟨vp_in_nI (by omega) (by omega), vp_in_nI (by omega) (by omega), ih (k + 1) (sI h4 (8 + k) k 0) (by omega) ?_ (by rw [kI, k4, ek]) (by rw [rI, r4, er]) (by rw [i4 6 (by omega) (by omega)]; exact e6) ?_ fun a t ha ht => ?_⟩
      · rw [zN_sI, n4, zn]
      · refine ⟨by rw [zN_sI, n4]; exact kp.1, fun a ha => ?_, fun a ha hs => ?_⟩
        · rw [kI, k4]; exact kp.2.1 a ha
        · have a6 : a < 6 := by omega
          have s := kp4.2.2 a (by omega) (by omega)
          have s2 := kp.2.2 a ha hs
          exact s2.tr (s.tr (Sm.sI (by omega)))
      · by_cases e : a = k
        · subst e
          rw [zI_sI]
          unfold cst
          by_cases e2 : t = a
          · rw [e2, up1_s, if_pos rfl]; rfl
          · rw [up1_n _ _ e2, if_neg (fun q => e2 q.symm), z4 t ht]
            show (1 : Int32) = nI (1 + pop 6 (0 ^^^ 0))
            decide
        · rw [i4 _ (by omega) (by omega)]
          exact cs a t (by omega) ht
  exact lp 16 0 (sR h2 5 1 7) rfl q7 rfl rfl (by rw [iR]; exact q5) (kp1.tr (Kp.sR rfl)) fun a t q => absurd q (Nat.not_lt_zero _)
