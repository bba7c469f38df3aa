/-! ===== what a call answers ===== -/
def cl (x : Int32) : Nat := x.toNatClampNeg
def cb (x : Int32) : Nat := (x + 1).toNatClampNeg
theorem cl_n {j : Nat} (h : j < 2 ^ 31) : cl (nI j) = j := nI_clamp h
theorem cb_b {j : Nat} (h : j < 2 ^ 31) : cb (bI j) = j := by
  unfold cb bI
  rw [Int32.sub_add_cancel]
  exact nI_clamp h
theorem inb_i {j n : Nat} (hj : j < n) (hn : n < 2 ^ 31) : inb (nI j) n = true := by
  rw [inb_n (by omega) hn]
  exact decide_eq_true hj
theorem okS_n {s : Nat} (h1 : 1 ≤ s) (h2 : s < 65536) : okS (nI s) = true := by
  have a : ¬ nI s < 1 := by rw [Int32.lt_iff_toInt_lt, nI_toInt (by omega)]; show ¬ (s : Int) < 1; omega
  have b : ¬ (65536 : Int32) ≤ nI s := by rw [Int32.le_iff_toInt_le, nI_toInt (by omega)]; show ¬ (65536 : Int) ≤ s; omega
  unfold okS
  rw [decide_eq_true a, decide_eq_true b]; rfl
theorem bI_toInt {b : Nat} (h : b ≤ 22) : (bI b).toInt = (b : Int) - 1 := by
  rcases b with _ | b
  · rfl
  · rw [bI_s, nI_toInt (by omega)]; omega
theorem okB_n {b : Nat} (h : b ≤ 22) : okB (bI b) = true := by
  have a : ¬ bI b < -1 := by rw [Int32.lt_iff_toInt_lt, bI_toInt h]; show ¬ (b : Int) - 1 < -1; omega
  have c : ¬ (21 : Int32) < bI b := by rw [Int32.lt_iff_toInt_lt, bI_toInt h]; show ¬ (21 : Int) < (b : Int) - 1; omega
  unfold okB
  rw [decide_eq_true a, decide_eq_true c]; rfl
theorem okM_n {t : Nat} (h : t ≤ 8) : okM (nI t) = true := by
  have a : ¬ nI t < 0 := by rw [Int32.lt_iff_toInt_lt, nI_toInt (by omega)]; show ¬ (t : Int) < 0; omega
  have b : ¬ (8 : Int32) < nI t := by rw [Int32.lt_iff_toInt_lt, nI_toInt (by omega)]; show ¬ (8 : Int) < t; omega
  unfold okM
  rw [decide_eq_true a, decide_eq_true b]; rfl
theorem okN_n {s : Nat} (h : s ≤ 16) : okN (bI s) = true := by
  unfold okN
  rcases s with _ | s
  · rfl
  · rw [bI_s, inb_i (by omega) (by decide), Bool.or_true]
theorem lt_nI {l k : Nat} (h1 : l < k) (h2 : k < 2 ^ 31) : decide (nI l < nI k) = true := by
  refine decide_eq_true ?_
  rw [Int32.lt_iff_toInt_lt, nI_toInt (by omega), nI_toInt h2]
  omega
section Answers
variable (f : Nat → Nat) (gv : Nat → List Nat) (op : Nat) (D : HD)
def O_setSound (x y : Int32) : Rs := if (inb x 16 && inb y 64) = true then (0, nI (f (cl x)), fup f (cl x) (cl y), gv, op, D) else (1, 0, f, gv, op, D)
def O_word (x : Int32) : Rs := if inb x 12 = true then (0, nI (gv (cl x)).length, f, gup gv (cl x) [], cl x + 1, D) else (1, 0, f, gv, op, D)
def O_spell (x : Int32) : Rs := if inb x 16 = true then (if op = 0 ∨ (gv (op - 1)).length = 10 then (2, 0, f, gv, op, D) else (0, nI ((gv (op - 1)).length + 1), f, gup gv (op - 1) (gv (op - 1) ++ [cl x]), op, D)) else (1, 0, f, gv, op, D)
def O_language (x : Int32) : Rs := if inb x D.1 = true then (if D.1 = 10 then (2, 0, f, gv, op, D) else (0, nI D.1, f, gv, op, addL D (cl x))) else (1, 0, f, gv, op, D)
def O_law (x a1 a2 a3 a4 : Int32) : Rs := if inb x D.1 = true then (if (okS a1 && okB a2 && (inb a3 131072 && inb a4 131072)) = true then (if cl x = 0 ∨ (D.2.2.1 (cl x)).length = 8 then (3, 0, f, gv, op, D) else (0, nI ((D.2.2.1 (cl x)).length + 1), f, gv, op, setW D (cl x) (D.2.2.1 (cl x) ++ [(cl a1, cb a2, cl a3, cl a4)]))) else (2, 0, f, gv, op, D)) else (1, 0, f, gv, op, D)
def O_unlaw (x : Int32) : Rs := if inb x D.1 = true then (if (D.2.2.1 (cl x)).length = 0 then (2, 0, f, gv, op, D) else (0, nI ((D.2.2.1 (cl x)).length - 1), f, gv, op, setW D (cl x) (D.2.2.1 (cl x)).dropLast)) else (1, 0, f, gv, op, D)
def O_loan (a0 a1 a2 a3 : Int32) : Rs := if (inb a1 D.1 && inb a2 D.1) = true then (if (inb a0 12 && (decide (a1 < a2) && okM a3)) = true then (if D.2.2.2.length = 12 then (3, 0, f, gv, op, D) else (0, nI D.2.2.2.length, f, gv, op, addN D (cl a0, cl a1, cl a2, cl a3))) else (2, 0, f, gv, op, D)) else (1, 0, f, gv, op, D)
def O1 (n : Nat) (v : Nat → Int32) (x : Int32) : Rs := if inb x n = true then (0, v (cl x), f, gv, op, D) else (1, 0, f, gv, op, D)
def O2 (n1 n2 : Nat) (v : Nat → Nat → Int32) (x y : Int32) : Rs := if (inb x n1 && inb y n2) = true then (0, v (cl x) (cl y), f, gv, op, D) else (1, 0, f, gv, op, D)
def O3 (len : Nat → Nat → Nat) (v : Nat → Nat → Nat → Int32) (x y z : Int32) : Rs := if (inb x D.1 && inb y 12) = true then (if inb z (len (cl x) (cl y)) = true then (0, v (cl x) (cl y) (cl z), f, gv, op, D) else (1, 0, f, gv, op, D)) else (1, 0, f, gv, op, D)
def O4 (v : Nat → Nat → Nat → Int32) (a0 a1 a2 : Int32) : Rs := if (inb a1 D.1 && inb a2 D.1) = true then (if inb a0 12 = true then (0, v (cl a0) (cl a1) (cl a2), f, gv, op, D) else (2, 0, f, gv, op, D)) else (1, 0, f, gv, op, D)
def O5 (len : Nat → Nat → Nat → Nat) (v : Nat → Nat → Nat → Nat → Int32) (a0 a1 a2 a3 : Int32) : Rs := if (inb a1 D.1 && inb a2 D.1) = true then (if inb a0 12 = true then (if inb a3 (len (cl a0) (cl a1) (cl a2)) = true then (0, v (cl a0) (cl a1) (cl a2) (cl a3), f, gv, op, D) else (2, 0, f, gv, op, D)) else (2, 0, f, gv, op, D)) else (1, 0, f, gv, op, D)
def O6 (v : Nat → Nat → Nat → Nat → Int32) (a0 a1 a2 a3 : Int32) : Rs := if (inb a0 D.1 && inb a1 D.1) = true then (if (okN a2 && okN a3) = true then (0, v (cl a0) (cl a1) (cb a2) (cb a3), f, gv, op, D) else (2, 0, f, gv, op, D)) else (1, 0, f, gv, op, D)
def O7 (v : Nat → Nat → Nat → Int32) (a0 a1 a2 : Int32) : Rs := if (inb a0 D.1 && inb a1 D.1) = true then (if inb a2 16 = true then (0, v (cl a0) (cl a1) (cl a2), f, gv, op, D) else (2, 0, f, gv, op, D)) else (1, 0, f, gv, op, D)
def O8 (v : Nat → Nat → Int32) (x y : Int32) : Rs := if inb x D.1 = true then (if inb y (D.2.2.1 (cl x)).length = true then (if cl y + 1 = (D.2.2.1 (cl x)).length then (2, 0, f, gv, op, D) else (0, v (cl x) (cl y), f, gv, op, D)) else (1, 0, f, gv, op, D)) else (1, 0, f, gv, op, D)
def O9 (v : Nat → Nat → Int32) (x y : Int32) : Rs := if inb x D.1 = true then (if inb y (D.2.2.1 (cl x)).length = true then (0, v (cl x) (cl y), f, gv, op, D) else (1, 0, f, gv, op, D)) else (1, 0, f, gv, op, D)
def Od (v : Nat → Nat → UInt64) (x y : Int32) : Int32 × UInt64 := if (inb x D.1 && inb y D.1) = true then (0, v (cl x) (cl y)) else (1, 0)
end Answers
theorem fls {b : Bool} (h : b = false) : ¬ b = true := by rw [h]; exact Bool.false_ne_true
theorem ba {a b : Bool} (h1 : a = true) (h2 : b = true) : (a && b) = true := by rw [h1, h2]; rfl

theorem c_setSound {g : Gp} {h : AH} {Q : PQ} {f : Nat → Nat} {gv : Nat → List Nat} {op : Nat} {D : HD} {x y : Int32} (w : Wf h) (hf : FamR h f gv op D) (hm : ModR h f gv op D) (kd : Kd h) (hq : CQ (f, gv, op, D) (O_setSound f gv op D x y) Q) : Ev g mL_setSound [vR 4, vI x, vI y, vR 122] h Q := by
  have hD : hdOk D := hm.2.2.2.2.2.2.2
  have hg : ∀ m, m < 12 → Wok (gv m) := fun m q => (hm.2.2.2.1 m q).1
  have hD1 := hD.2.1
  have hD5 := hD.2.2.2.2.1
  refine w_setSound hf.1.1.1 (e_setSound hf ?_ ?_ )
  · intro s v hs hv e1 e2 h1 fc fr
    subst e1
    subst e2
    exact c_ok (st := (f, gv, _, D)) (st' := (fup f s v, gv, op, D)) w hm kd hq (by unfold O_setSound; rw [if_pos (ba (inb_i hs (by decide)) (inb_i hv (by decide)))]; rw [cl_n (show s < 2 ^ 31 by omega), cl_n (show v < 2 ^ 31 by omega)]) fc fr
  · intro e n hn
    exact c_nb (st := (f, gv, _, D)) (j := 0) w hm kd hq (by unfold O_setSound; rw [if_neg (fls e)]; rfl) rfl (by decide) Kp.rf hf hn
theorem m_setSound {g : Gp} {h : AH} {Q : PQ} {f : Nat → Nat} {gv : Nat → List Nat} {op : Nat} {D : HD} {x y : Int32} {st' : St} (w : Wf h) (hf : FamS h st') (hm : ModR h f gv op D) (kd : Kd h) (hz : (O_setSound f gv op D x y).1 = 0 → zL h 122 0 = (O_setSound f gv op D x y).2.1.toInt64) (hq : MQ2 st' (O_setSound f gv op D x y) Q) : Ev g mX10_setSound [vR 99, vI x, vI y] h Q := by
  have hD : hdOk D := hm.2.2.2.2.2.2.2
  have hg : ∀ m, m < 12 → Wok (gv m) := fun m q => (hm.2.2.2.1 m q).1
  have hD1 := hD.2.1
  have hD5 := hD.2.2.2.2.1
  refine e_msetSound hm ?_ ?_ 
  · intro s v hs hv e1 e2 h1 mc mr e9
    subst e1
    subst e2
    exact m_any (st := (f, gv, _, D)) (st2 := (fup f s v, gv, op, D)) w hf hm kd hz hq (by unfold O_setSound; rw [if_pos (ba (inb_i hs (by decide)) (inb_i hv (by decide)))]; rw [cl_n (show s < 2 ^ 31 by omega), cl_n (show v < 2 ^ 31 by omega)]) mc mr e9
  · intro e h1 ms e9
    exact m_ms (st := (f, gv, _, D)) w hf hm kd hz hq (by unfold O_setSound; rw [if_neg (fls e)]) ms e9
theorem c_word {g : Gp} {h : AH} {Q : PQ} {f : Nat → Nat} {gv : Nat → List Nat} {op : Nat} {D : HD} {x : Int32} (w : Wf h) (hf : FamR h f gv op D) (hm : ModR h f gv op D) (kd : Kd h) (hq : CQ (f, gv, op, D) (O_word f gv op D x) Q) : Ev g mL_word [vR 4, vI x, vR 122] h Q := by
  have hD : hdOk D := hm.2.2.2.2.2.2.2
  have hg : ∀ m, m < 12 → Wok (gv m) := fun m q => (hm.2.2.2.1 m q).1
  have hD1 := hD.2.1
  have hD5 := hD.2.2.2.2.1
  refine w_word hf.1.1.1 (e_word hf ?_ ?_ )
  · intro m hs e1 h1 fc fr
    subst e1
    exact c_ok (st := (f, gv, _, D)) (st' := (f, gup gv m [], m + 1, D)) w hm kd hq (by unfold O_word; rw [if_pos (inb_i hs (by decide))]; rw [cl_n (show m < 2 ^ 31 by omega)]) fc fr
  · intro e n hn
    exact c_nb (st := (f, gv, _, D)) (j := 0) w hm kd hq (by unfold O_word; rw [if_neg (fls e)]; rfl) rfl (by decide) Kp.rf hf hn
theorem m_word {g : Gp} {h : AH} {Q : PQ} {f : Nat → Nat} {gv : Nat → List Nat} {op : Nat} {D : HD} {x : Int32} {st' : St} (w : Wf h) (hf : FamS h st') (hm : ModR h f gv op D) (kd : Kd h) (hz : (O_word f gv op D x).1 = 0 → zL h 122 0 = (O_word f gv op D x).2.1.toInt64) (hq : MQ2 st' (O_word f gv op D x) Q) : Ev g mX10_word [vR 99, vI x] h Q := by
  have hD : hdOk D := hm.2.2.2.2.2.2.2
  have hg : ∀ m, m < 12 → Wok (gv m) := fun m q => (hm.2.2.2.1 m q).1
  have hD1 := hD.2.1
  have hD5 := hD.2.2.2.2.1
  refine e_mword hm ?_ ?_ 
  · intro m hs e1 h1 mc mr e9
    subst e1
    exact m_any (st := (f, gv, _, D)) (st2 := (f, gup gv m [], m + 1, D)) w hf hm kd hz hq (by unfold O_word; rw [if_pos (inb_i hs (by decide))]; rw [cl_n (show m < 2 ^ 31 by omega)]) mc mr e9
  · intro e h1 ms e9
    exact m_ms (st := (f, gv, _, D)) w hf hm kd hz hq (by unfold O_word; rw [if_neg (fls e)]) ms e9
theorem c_spell {g : Gp} {h : AH} {Q : PQ} {f : Nat → Nat} {gv : Nat → List Nat} {op : Nat} {D : HD} {x : Int32} (w : Wf h) (hf : FamR h f gv op D) (hm : ModR h f gv op D) (kd : Kd h) (hq : CQ (f, gv, op, D) (O_spell f gv op D x) Q) : Ev g mL_spell [vR 4, vI x, vR 122] h Q := by
  have hD : hdOk D := hm.2.2.2.2.2.2.2
  have hg : ∀ m, m < 12 → Wok (gv m) := fun m q => (hm.2.2.2.1 m q).1
  have hD1 := hD.2.1
  have hD5 := hD.2.2.2.2.1
  refine w_spell hf.1.1.1 (e_spell hf ?_ ?_ ?_ )
  · intro s m hs e1 e2 h10 h1 fc fr
    subst e1
    subst e2
    exact c_ok (st := (f, gv, _, D)) (st' := (f, gup gv m (gv m ++ [s]), m + 1, D)) w hm kd hq (by unfold O_spell; rw [if_pos (inb_i hs (by decide))]; rw [if_neg (show ¬ (m + 1 = 0 ∨ (gv (m + 1 - 1)).length = 10) from fun q => by rw [Nat.add_sub_cancel] at q; omega)]; rw [cl_n (show s < 2 ^ 31 by omega), Nat.add_sub_cancel]) fc fr
  · intro e n hn
    exact c_nb (st := (f, gv, _, D)) (j := 0) w hm kd hq (by unfold O_spell; rw [if_neg (fls e)]; rfl) rfl (by decide) Kp.rf hf hn
  · intro e e2 n hn
    exact c_nb (st := (f, gv, _, D)) (j := 1) w hm kd hq (by unfold O_spell; rw [if_pos e]; rw [if_pos e2]; rfl) rfl (by decide) Kp.rf hf hn
theorem m_spell {g : Gp} {h : AH} {Q : PQ} {f : Nat → Nat} {gv : Nat → List Nat} {op : Nat} {D : HD} {x : Int32} {st' : St} (w : Wf h) (hf : FamS h st') (hm : ModR h f gv op D) (kd : Kd h) (hz : (O_spell f gv op D x).1 = 0 → zL h 122 0 = (O_spell f gv op D x).2.1.toInt64) (hq : MQ2 st' (O_spell f gv op D x) Q) : Ev g mX10_spell [vR 99, vI x] h Q := by
  have hD : hdOk D := hm.2.2.2.2.2.2.2
  have hg : ∀ m, m < 12 → Wok (gv m) := fun m q => (hm.2.2.2.1 m q).1
  have hD1 := hD.2.1
  have hD5 := hD.2.2.2.2.1
  refine e_mspell hm ?_ ?_ ?_ 
  · intro s m hs e1 e2 h10 h1 mc mr e9
    subst e1
    subst e2
    exact m_any (st := (f, gv, _, D)) (st2 := (f, gup gv m (gv m ++ [s]), m + 1, D)) w hf hm kd hz hq (by unfold O_spell; rw [if_pos (inb_i hs (by decide))]; rw [if_neg (show ¬ (m + 1 = 0 ∨ (gv (m + 1 - 1)).length = 10) from fun q => by rw [Nat.add_sub_cancel] at q; omega)]; rw [cl_n (show s < 2 ^ 31 by omega), Nat.add_sub_cancel]) mc mr e9
  · intro e h1 ms e9
    exact m_ms (st := (f, gv, _, D)) w hf hm kd hz hq (by unfold O_spell; rw [if_neg (fls e)]) ms e9
  · intro e e2 h1 ms e9
    exact m_ms (st := (f, gv, _, D)) w hf hm kd hz hq (by unfold O_spell; rw [if_pos e]; rw [if_pos e2]) ms e9
theorem c_language {g : Gp} {h : AH} {Q : PQ} {f : Nat → Nat} {gv : Nat → List Nat} {op : Nat} {D : HD} {x : Int32} (w : Wf h) (hf : FamR h f gv op D) (hm : ModR h f gv op D) (kd : Kd h) (hq : CQ (f, gv, op, D) (O_language f gv op D x) Q) : Ev g mL_language [vR 4, vI x, vR 122] h Q := by
  have hD : hdOk D := hm.2.2.2.2.2.2.2
  have hg : ∀ m, m < 12 → Wok (gv m) := fun m q => (hm.2.2.2.1 m q).1
  have hD1 := hD.2.1
  have hD5 := hD.2.2.2.2.1
  refine w_language hf.1.1.1 (e_language hf ?_ ?_ ?_ )
  · intro p hp e1 h10 h1 fc fr
    subst e1
    exact c_ok (st := (f, gv, _, D)) (st' := (f, gv, op, addL D p)) w hm kd hq (by unfold O_language; rw [if_pos (inb_i hp (by omega))]; rw [if_neg (show ¬ D.1 = 10 by omega)]; rw [cl_n (show p < 2 ^ 31 by omega)]) fc fr
  · intro e n hn
    exact c_nb (st := (f, gv, _, D)) (j := 0) w hm kd hq (by unfold O_language; rw [if_neg (fls e)]; rfl) rfl (by decide) Kp.rf hf hn
  · intro e e2 n hn
    exact c_nb (st := (f, gv, _, D)) (j := 1) w hm kd hq (by unfold O_language; rw [if_pos e]; rw [if_pos e2]; rfl) rfl (by decide) Kp.rf hf hn
theorem m_language {g : Gp} {h : AH} {Q : PQ} {f : Nat → Nat} {gv : Nat → List Nat} {op : Nat} {D : HD} {x : Int32} {st' : St} (w : Wf h) (hf : FamS h st') (hm : ModR h f gv op D) (kd : Kd h) (hz : (O_language f gv op D x).1 = 0 → zL h 122 0 = (O_language f gv op D x).2.1.toInt64) (hq : MQ2 st' (O_language f gv op D x) Q) : Ev g mX10_language [vR 99, vI x] h Q := by
  have hD : hdOk D := hm.2.2.2.2.2.2.2
  have hg : ∀ m, m < 12 → Wok (gv m) := fun m q => (hm.2.2.2.1 m q).1
  have hD1 := hD.2.1
  have hD5 := hD.2.2.2.2.1
  refine e_mlanguage hm ?_ ?_ ?_ 
  · intro p hp e1 h10 h1 mc mr e9
    subst e1
    exact m_any (st := (f, gv, _, D)) (st2 := (f, gv, op, addL D p)) w hf hm kd hz hq (by unfold O_language; rw [if_pos (inb_i hp (by omega))]; rw [if_neg (show ¬ D.1 = 10 by omega)]; rw [cl_n (show p < 2 ^ 31 by omega)]) mc mr e9
  · intro e h1 ms e9
    exact m_ms (st := (f, gv, _, D)) w hf hm kd hz hq (by unfold O_language; rw [if_neg (fls e)]) ms e9
  · intro e e2 h1 ms e9
    exact m_ms (st := (f, gv, _, D)) w hf hm kd hz hq (by unfold O_language; rw [if_pos e]; rw [if_pos e2]) ms e9
theorem c_law {g : Gp} {h : AH} {Q : PQ} {f : Nat → Nat} {gv : Nat → List Nat} {op : Nat} {D : HD} {x a1 a2 a3 a4 : Int32} (w : Wf h) (hf : FamR h f gv op D) (hm : ModR h f gv op D) (kd : Kd h) (hq : CQ (f, gv, op, D) (O_law f gv op D x a1 a2 a3 a4) Q) : Ev g mL_law [vR 4, vI x, vI a1, vI a2, vI a3, vI a4, vR 122] h Q := by
  have hD : hdOk D := hm.2.2.2.2.2.2.2
  have hg : ∀ m, m < 12 → Wok (gv m) := fun m q => (hm.2.2.2.1 m q).1
  have hD1 := hD.2.1
  have hD5 := hD.2.2.2.2.1
  refine w_law hf.1.1.1 (e_law hf ?_ ?_ ?_ ?_ )
  · intro l s b p q hl e0 lo hs e1 e2 e3 e4 h0 h8 h1 fc fr
    subst e0
    subst e1
    subst e2
    subst e3
    subst e4
    exact c_ok (st := (f, gv, _, D)) (st' := (f, gv, op, setW D l (D.2.2.1 l ++ [(s, b, p, q)]))) w hm kd hq (by have lo1 : s < 65536 := lo.1; have lo2 : b ≤ 22 := lo.2.1; have lo3 : p < 131072 := lo.2.2.1; have lo4 : q < 131072 := lo.2.2.2; unfold O_law; rw [if_pos (inb_i hl (by omega))]; rw [if_pos (ba (ba (okS_n hs lo1) (okB_n lo2)) (ba (inb_i lo3 (by decide)) (inb_i lo4 (by decide))))]; rw [cl_n (show l < 2 ^ 31 by omega)]; rw [if_neg (show ¬ (l = 0 ∨ (D.2.2.1 l).length = 8) by omega)]; rw [cl_n (show s < 2 ^ 31 by omega), cl_n (show p < 2 ^ 31 by omega), cl_n (show q < 2 ^ 31 by omega), cb_b (show b < 2 ^ 31 by omega)]) fc fr
  · intro e n hn
    exact c_nb (st := (f, gv, _, D)) (j := 0) w hm kd hq (by unfold O_law; rw [if_neg (fls e)]; rfl) rfl (by decide) Kp.rf hf hn
  · intro e e2 h1 kn fr
    exact c_no (st := (f, gv, _, D)) (j := 1) w hm kd hq (by unfold O_law; rw [if_pos e]; rw [if_neg (fls e2)]; rfl) rfl (by decide) (kn.mono fun _ _ q => q.elim) fr
  · intro l hl e0 e2 e3 h1 kn fr
    subst e0
    exact c_no (st := (f, gv, _, D)) (j := 2) w hm kd hq (by unfold O_law; rw [if_pos (inb_i hl (by omega))]; rw [if_pos e2]; rw [cl_n (show l < 2 ^ 31 by omega)]; rw [if_pos e3]; rfl) rfl (by decide) (kn.mono fun _ _ q => q.elim) fr
theorem m_law {g : Gp} {h : AH} {Q : PQ} {f : Nat → Nat} {gv : Nat → List Nat} {op : Nat} {D : HD} {x a1 a2 a3 a4 : Int32} {st' : St} (w : Wf h) (hf : FamS h st') (hm : ModR h f gv op D) (kd : Kd h) (hz : (O_law f gv op D x a1 a2 a3 a4).1 = 0 → zL h 122 0 = (O_law f gv op D x a1 a2 a3 a4).2.1.toInt64) (hq : MQ2 st' (O_law f gv op D x a1 a2 a3 a4) Q) : Ev g mX10_law [vR 99, vI x, vI a1, vI a2, vI a3, vI a4] h Q := by
  have hD : hdOk D := hm.2.2.2.2.2.2.2
  have hg : ∀ m, m < 12 → Wok (gv m) := fun m q => (hm.2.2.2.1 m q).1
  have hD1 := hD.2.1
  have hD5 := hD.2.2.2.2.1
  refine e_mlaw hm ?_ ?_ ?_ ?_ 
  · intro l s b p q hl e0 lo hs e1 e2 e3 e4 h0 h8 h1 mc mr e9
    subst e0
    subst e1
    subst e2
    subst e3
    subst e4
    exact m_any (st := (f, gv, _, D)) (st2 := (f, gv, op, setW D l (D.2.2.1 l ++ [(s, b, p, q)]))) w hf hm kd hz hq (by have lo1 : s < 65536 := lo.1; have lo2 : b ≤ 22 := lo.2.1; have lo3 : p < 131072 := lo.2.2.1; have lo4 : q < 131072 := lo.2.2.2; unfold O_law; rw [if_pos (inb_i hl (by omega))]; rw [if_pos (ba (ba (okS_n hs lo1) (okB_n lo2)) (ba (inb_i lo3 (by decide)) (inb_i lo4 (by decide))))]; rw [cl_n (show l < 2 ^ 31 by omega)]; rw [if_neg (show ¬ (l = 0 ∨ (D.2.2.1 l).length = 8) by omega)]; rw [cl_n (show s < 2 ^ 31 by omega), cl_n (show p < 2 ^ 31 by omega), cl_n (show q < 2 ^ 31 by omega), cb_b (show b < 2 ^ 31 by omega)]) mc mr e9
  · intro e h1 ms e9
    exact m_ms (st := (f, gv, _, D)) w hf hm kd hz hq (by unfold O_law; rw [if_neg (fls e)]) ms e9
  · intro e e2 h1 ms e9
    exact m_ms (st := (f, gv, _, D)) w hf hm kd hz hq (by unfold O_law; rw [if_pos e]; rw [if_neg (fls e2)]) ms e9
  · intro l hl e0 e2 e3 h1 ms e9
    subst e0
    exact m_ms (st := (f, gv, _, D)) w hf hm kd hz hq (by unfold O_law; rw [if_pos (inb_i hl (by omega))]; rw [if_pos e2]; rw [cl_n (show l < 2 ^ 31 by omega)]; rw [if_pos e3]) ms e9
theorem c_unlaw {g : Gp} {h : AH} {Q : PQ} {f : Nat → Nat} {gv : Nat → List Nat} {op : Nat} {D : HD} {x : Int32} (w : Wf h) (hf : FamR h f gv op D) (hm : ModR h f gv op D) (kd : Kd h) (hq : CQ (f, gv, op, D) (O_unlaw f gv op D x) Q) : Ev g mL_unlaw [vR 4, vI x, vR 122] h Q := by
  have hD : hdOk D := hm.2.2.2.2.2.2.2
  have hg : ∀ m, m < 12 → Wok (gv m) := fun m q => (hm.2.2.2.1 m q).1
  have hD1 := hD.2.1
  have hD5 := hD.2.2.2.2.1
  refine w_unlaw hf.1.1.1 (e_unlaw hf ?_ ?_ ?_ )
  · intro l hl e0 h0 h1 fc fr
    subst e0
    exact c_ok (st := (f, gv, _, D)) (st' := (f, gv, op, setW D l (D.2.2.1 l).dropLast)) w hm kd hq (by unfold O_unlaw; rw [if_pos (inb_i hl (by omega))]; rw [cl_n (show l < 2 ^ 31 by omega)]; rw [if_neg (show ¬ (D.2.2.1 l).length = 0 by omega)]) fc fr
  · intro e n hn
    exact c_nb (st := (f, gv, _, D)) (j := 0) w hm kd hq (by unfold O_unlaw; rw [if_neg (fls e)]; rfl) rfl (by decide) Kp.rf hf hn
  · intro l hl e0 h0 n hn
    subst e0
    exact c_nb (st := (f, gv, _, D)) (j := 1) w hm kd hq (by unfold O_unlaw; rw [if_pos (inb_i hl (by omega))]; rw [cl_n (show l < 2 ^ 31 by omega)]; rw [if_pos h0]; rfl) rfl (by decide) Kp.rf hf hn
theorem m_unlaw {g : Gp} {h : AH} {Q : PQ} {f : Nat → Nat} {gv : Nat → List Nat} {op : Nat} {D : HD} {x : Int32} {st' : St} (w : Wf h) (hf : FamS h st') (hm : ModR h f gv op D) (kd : Kd h) (hz : (O_unlaw f gv op D x).1 = 0 → zL h 122 0 = (O_unlaw f gv op D x).2.1.toInt64) (hq : MQ2 st' (O_unlaw f gv op D x) Q) : Ev g mX10_unlaw [vR 99, vI x] h Q := by
  have hD : hdOk D := hm.2.2.2.2.2.2.2
  have hg : ∀ m, m < 12 → Wok (gv m) := fun m q => (hm.2.2.2.1 m q).1
  have hD1 := hD.2.1
  have hD5 := hD.2.2.2.2.1
  refine e_munlaw hm ?_ ?_ ?_ 
  · intro l hl e0 h0 h1 mc mr e9
    subst e0
    exact m_any (st := (f, gv, _, D)) (st2 := (f, gv, op, setW D l (D.2.2.1 l).dropLast)) w hf hm kd hz hq (by unfold O_unlaw; rw [if_pos (inb_i hl (by omega))]; rw [cl_n (show l < 2 ^ 31 by omega)]; rw [if_neg (show ¬ (D.2.2.1 l).length = 0 by omega)]) mc mr e9
  · intro e h1 ms e9
    exact m_ms (st := (f, gv, _, D)) w hf hm kd hz hq (by unfold O_unlaw; rw [if_neg (fls e)]) ms e9
  · intro l hl e0 h0 h1 ms e9
    subst e0
    exact m_ms (st := (f, gv, _, D)) w hf hm kd hz hq (by unfold O_unlaw; rw [if_pos (inb_i hl (by omega))]; rw [cl_n (show l < 2 ^ 31 by omega)]; rw [if_pos h0]) ms e9
theorem c_loan {g : Gp} {h : AH} {Q : PQ} {f : Nat → Nat} {gv : Nat → List Nat} {op : Nat} {D : HD} {a0 a1 a2 a3 : Int32} (w : Wf h) (hf : FamR h f gv op D) (hm : ModR h f gv op D) (kd : Kd h) (hq : CQ (f, gv, op, D) (O_loan f gv op D a0 a1 a2 a3) Q) : Ev g mL_loan [vR 4, vI a0, vI a1, vI a2, vI a3, vR 122] h Q := by
  have hD : hdOk D := hm.2.2.2.2.2.2.2
  have hg : ∀ m, m < 12 → Wok (gv m) := fun m q => (hm.2.2.2.1 m q).1
  have hD1 := hD.2.1
  have hD5 := hD.2.2.2.2.1
  refine w_loan hf.1.1.1 (e_loan hf ?_ ?_ ?_ ?_ )
  · intro m l k t hm0 hlk hk ht e0 e1 e2 e3 h12 h1 fc fr
    subst e0
    subst e1
    subst e2
    subst e3
    exact c_ok (st := (f, gv, _, D)) (st' := (f, gv, op, addN D (m, l, k, t))) w hm kd hq (by unfold O_loan; rw [if_pos (ba (inb_i (show l < D.1 by omega) (by omega)) (inb_i hk (by omega)))]; rw [if_pos (ba (inb_i hm0 (by decide)) (ba (lt_nI hlk (by omega)) (okM_n ht)))]; rw [if_neg (show ¬ D.2.2.2.length = 12 by omega)]; rw [cl_n (show m < 2 ^ 31 by omega), cl_n (show l < 2 ^ 31 by omega), cl_n (show k < 2 ^ 31 by omega), cl_n (show t < 2 ^ 31 by omega)]) fc fr
  · intro e n hn
    exact c_nb (st := (f, gv, _, D)) (j := 0) w hm kd hq (by unfold O_loan; rw [if_neg (fls e)]; rfl) rfl (by decide) Kp.rf hf hn
  · intro e e2 h1 kn fr
    exact c_no (st := (f, gv, _, D)) (j := 1) w hm kd hq (by unfold O_loan; rw [if_pos e]; rw [if_neg (fls e2)]; rfl) rfl (by decide) (kn.mono fun _ _ q => q.elim) fr
  · intro e e2 e3 h1 kn fr
    exact c_no (st := (f, gv, _, D)) (j := 2) w hm kd hq (by unfold O_loan; rw [if_pos e]; rw [if_pos e2]; rw [if_pos e3]; rfl) rfl (by decide) (kn.mono fun _ _ q => q.elim) fr
theorem m_loan {g : Gp} {h : AH} {Q : PQ} {f : Nat → Nat} {gv : Nat → List Nat} {op : Nat} {D : HD} {a0 a1 a2 a3 : Int32} {st' : St} (w : Wf h) (hf : FamS h st') (hm : ModR h f gv op D) (kd : Kd h) (hz : (O_loan f gv op D a0 a1 a2 a3).1 = 0 → zL h 122 0 = (O_loan f gv op D a0 a1 a2 a3).2.1.toInt64) (hq : MQ2 st' (O_loan f gv op D a0 a1 a2 a3) Q) : Ev g mX10_loan [vR 99, vI a0, vI a1, vI a2, vI a3] h Q := by
  have hD : hdOk D := hm.2.2.2.2.2.2.2
  have hg : ∀ m, m < 12 → Wok (gv m) := fun m q => (hm.2.2.2.1 m q).1
  have hD1 := hD.2.1
  have hD5 := hD.2.2.2.2.1
  refine e_mloan hm ?_ ?_ ?_ ?_ 
  · intro m l k t hm0 hlk hk ht e0 e1 e2 e3 h12 h1 mc mr e9
    subst e0
    subst e1
    subst e2
    subst e3
    exact m_any (st := (f, gv, _, D)) (st2 := (f, gv, op, addN D (m, l, k, t))) w hf hm kd hz hq (by unfold O_loan; rw [if_pos (ba (inb_i (show l < D.1 by omega) (by omega)) (inb_i hk (by omega)))]; rw [if_pos (ba (inb_i hm0 (by decide)) (ba (lt_nI hlk (by omega)) (okM_n ht)))]; rw [if_neg (show ¬ D.2.2.2.length = 12 by omega)]; rw [cl_n (show m < 2 ^ 31 by omega), cl_n (show l < 2 ^ 31 by omega), cl_n (show k < 2 ^ 31 by omega), cl_n (show t < 2 ^ 31 by omega)]) mc mr e9
  · intro e h1 ms e9
    exact m_ms (st := (f, gv, _, D)) w hf hm kd hz hq (by unfold O_loan; rw [if_neg (fls e)]) ms e9
  · intro e e2 h1 ms e9
    exact m_ms (st := (f, gv, _, D)) w hf hm kd hz hq (by unfold O_loan; rw [if_pos e]; rw [if_neg (fls e2)]) ms e9
  · intro e e2 e3 h1 ms e9
    exact m_ms (st := (f, gv, _, D)) w hf hm kd hz hq (by unfold O_loan; rw [if_pos e]; rw [if_pos e2]; rw [if_pos e3]) ms e9
theorem c_laws {g : Gp} {h : AH} {Q : PQ} {f : Nat → Nat} {gv : Nat → List Nat} {op : Nat} {D : HD} {x : Int32} (w : Wf h) (hf : FamR h f gv op D) (hm : ModR h f gv op D) (kd : Kd h) (hq : CQ (f, gv, op, D) (O1 f gv op D D.1 (fun l => nI (D.2.2.1 l).length) x) Q) : Ev g mL_laws [vR 4, vI x, vR 122] h Q := by
  have hD : hdOk D := hm.2.2.2.2.2.2.2
  have hg : ∀ m, m < 12 → Wok (gv m) := fun m q => (hm.2.2.2.1 m q).1
  have hD1 := hD.2.1
  have hD5 := hD.2.2.2.2.1
  refine w_laws hf.1.1.1 (e_laws hf ?_ ?_ )
  · intro l hl e0
    subst e0
    exact c_ok (st := (f, gv, _, D)) (st' := (f, gv, op, D)) w hm kd hq (by unfold O1; rw [if_pos (inb_i hl (by omega))]; rw [cl_n (show l < 2 ^ 31 by omega)]) Kp.rf hf
  · intro e n hn
    exact c_nb (st := (f, gv, _, D)) (j := 0) w hm kd hq (by unfold O1; rw [if_neg (fls e)]; rfl) rfl (by decide) Kp.rf hf hn
theorem m_laws {g : Gp} {h : AH} {Q : PQ} {f : Nat → Nat} {gv : Nat → List Nat} {op : Nat} {D : HD} {x : Int32} {st' : St} (w : Wf h) (hf : FamS h st') (hm : ModR h f gv op D) (kd : Kd h) (hz : (O1 f gv op D D.1 (fun l => nI (D.2.2.1 l).length) x).1 = 0 → zL h 122 0 = (O1 f gv op D D.1 (fun l => nI (D.2.2.1 l).length) x).2.1.toInt64) (hq : MQ2 st' (O1 f gv op D D.1 (fun l => nI (D.2.2.1 l).length) x) Q) : Ev g mX10_laws [vR 99, vI x] h Q := by
  have hD : hdOk D := hm.2.2.2.2.2.2.2
  have hg : ∀ m, m < 12 → Wok (gv m) := fun m q => (hm.2.2.2.1 m q).1
  have hD1 := hD.2.1
  have hD5 := hD.2.2.2.2.1
  refine e_mlaws hm ?_ ?_ 
  · intro l hl e0 h1 ms e9
    subst e0
    exact m_ms (st := (f, gv, _, D)) w hf hm kd hz hq (by unfold O1; rw [if_pos (inb_i hl (by omega))]; rw [cl_n (show l < 2 ^ 31 by omega)]) ms e9
  · intro e h1 ms e9
    exact m_ms (st := (f, gv, _, D)) w hf hm kd hz hq (by unfold O1; rw [if_neg (fls e)]) ms e9
theorem c_wealth {g : Gp} {h : AH} {Q : PQ} {f : Nat → Nat} {gv : Nat → List Nat} {op : Nat} {D : HD} {x : Int32} (w : Wf h) (hf : FamR h f gv op D) (hm : ModR h f gv op D) (kd : Kd h) (hq : CQ (f, gv, op, D) (O1 f gv op D D.1 (fun l => nI (wlt D f gv l 12)) x) Q) : Ev g mL_wealth [vR 4, vI x, vR 122] h Q := by
  have hD : hdOk D := hm.2.2.2.2.2.2.2
  have hg : ∀ m, m < 12 → Wok (gv m) := fun m q => (hm.2.2.2.1 m q).1
  have hD1 := hD.2.1
  have hD5 := hD.2.2.2.2.1
  refine w_wealth hf.1.1.1 (e_wealth hf ?_ ?_ )
  · intro l hl e0 h1 fc fr
    subst e0
    exact c_ok (st := (f, gv, _, D)) (st' := (f, gv, op, D)) w hm kd hq (by unfold O1; rw [if_pos (inb_i hl (by omega))]; rw [cl_n (show l < 2 ^ 31 by omega)]) fc fr
  · intro e n hn
    exact c_nb (st := (f, gv, _, D)) (j := 0) w hm kd hq (by unfold O1; rw [if_neg (fls e)]; rfl) rfl (by decide) Kp.rf hf hn
theorem m_wealth {g : Gp} {h : AH} {Q : PQ} {f : Nat → Nat} {gv : Nat → List Nat} {op : Nat} {D : HD} {x : Int32} {st' : St} (w : Wf h) (hf : FamS h st') (hm : ModR h f gv op D) (kd : Kd h) (hz : (O1 f gv op D D.1 (fun l => nI (wlt D f gv l 12)) x).1 = 0 → zL h 122 0 = (O1 f gv op D D.1 (fun l => nI (wlt D f gv l 12)) x).2.1.toInt64) (hq : MQ2 st' (O1 f gv op D D.1 (fun l => nI (wlt D f gv l 12)) x) Q) : Ev g mX10_wealth [vR 99, vI x] h Q := by
  have hD : hdOk D := hm.2.2.2.2.2.2.2
  have hg : ∀ m, m < 12 → Wok (gv m) := fun m q => (hm.2.2.2.1 m q).1
  have hD1 := hD.2.1
  have hD5 := hD.2.2.2.2.1
  refine e_mwealth hm ?_ ?_ 
  · intro l hl e0 h1 ms e9
    subst e0
    exact m_ms (st := (f, gv, _, D)) w hf hm kd hz hq (by unfold O1; rw [if_pos (inb_i hl (by omega))]; rw [cl_n (show l < 2 ^ 31 by omega)]) ms e9
  · intro e h1 ms e9
    exact m_ms (st := (f, gv, _, D)) w hf hm kd hz hq (by unfold O1; rw [if_neg (fls e)]) ms e9
theorem c_alike {g : Gp} {h : AH} {Q : PQ} {f : Nat → Nat} {gv : Nat → List Nat} {op : Nat} {D : HD} {x : Int32} (w : Wf h) (hf : FamR h f gv op D) (hm : ModR h f gv op D) (kd : Kd h) (hq : CQ (f, gv, op, D) (O1 f gv op D D.1 (fun l => nI (alk (fun m => (cel D f gv m l).1) 12)) x) Q) : Ev g mL_alike [vR 4, vI x, vR 122] h Q := by
  have hD : hdOk D := hm.2.2.2.2.2.2.2
  have hg : ∀ m, m < 12 → Wok (gv m) := fun m q => (hm.2.2.2.1 m q).1
  have hD1 := hD.2.1
  have hD5 := hD.2.2.2.2.1
  refine w_alike hf.1.1.1 (e_alike hf ?_ ?_ )
  · intro l hl e0 h1 fc fr
    subst e0
    exact c_ok (st := (f, gv, _, D)) (st' := (f, gv, op, D)) w hm kd hq (by unfold O1; rw [if_pos (inb_i hl (by omega))]; rw [cl_n (show l < 2 ^ 31 by omega)]) fc fr
  · intro e n hn
    exact c_nb (st := (f, gv, _, D)) (j := 0) w hm kd hq (by unfold O1; rw [if_neg (fls e)]; rfl) rfl (by decide) Kp.rf hf hn
theorem m_alike {g : Gp} {h : AH} {Q : PQ} {f : Nat → Nat} {gv : Nat → List Nat} {op : Nat} {D : HD} {x : Int32} {st' : St} (w : Wf h) (hf : FamS h st') (hm : ModR h f gv op D) (kd : Kd h) (hz : (O1 f gv op D D.1 (fun l => nI (alk (fun m => (cel D f gv m l).1) 12)) x).1 = 0 → zL h 122 0 = (O1 f gv op D D.1 (fun l => nI (alk (fun m => (cel D f gv m l).1) 12)) x).2.1.toInt64) (hq : MQ2 st' (O1 f gv op D D.1 (fun l => nI (alk (fun m => (cel D f gv m l).1) 12)) x) Q) : Ev g mX10_alike [vR 99, vI x] h Q := by
  have hD : hdOk D := hm.2.2.2.2.2.2.2
  have hg : ∀ m, m < 12 → Wok (gv m) := fun m q => (hm.2.2.2.1 m q).1
  have hD1 := hD.2.1
  have hD5 := hD.2.2.2.2.1
  refine e_malike hm ?_ ?_ 
  · intro l hl e0 h1 ms e9
    subst e0
    exact m_ms (st := (f, gv, _, D)) w hf hm kd hz hq (by unfold O1; rw [if_pos (inb_i hl (by omega))]; rw [cl_n (show l < 2 ^ 31 by omega)]) ms e9
  · intro e h1 ms e9
    exact m_ms (st := (f, gv, _, D)) w hf hm kd hz hq (by unfold O1; rw [if_neg (fls e)]) ms e9
theorem c_soundsOf {g : Gp} {h : AH} {Q : PQ} {f : Nat → Nat} {gv : Nat → List Nat} {op : Nat} {D : HD} {x : Int32} (w : Wf h) (hf : FamR h f gv op D) (hm : ModR h f gv op D) (kd : Kd h) (hq : CQ (f, gv, op, D) (O1 f gv op D D.1 (fun l => nI (sos D f gv l 12)) x) Q) : Ev g mL_soundsOf [vR 4, vI x, vR 122] h Q := by
  have hD : hdOk D := hm.2.2.2.2.2.2.2
  have hg : ∀ m, m < 12 → Wok (gv m) := fun m q => (hm.2.2.2.1 m q).1
  have hD1 := hD.2.1
  have hD5 := hD.2.2.2.2.1
  refine w_soundsOf hf.1.1.1 (e_soundsOf hf ?_ ?_ )
  · intro l hl e0 h1 fc fr
    subst e0
    exact c_ok (st := (f, gv, _, D)) (st' := (f, gv, op, D)) w hm kd hq (by unfold O1; rw [if_pos (inb_i hl (by omega))]; rw [cl_n (show l < 2 ^ 31 by omega)]) fc fr
  · intro e n hn
    exact c_nb (st := (f, gv, _, D)) (j := 0) w hm kd hq (by unfold O1; rw [if_neg (fls e)]; rfl) rfl (by decide) Kp.rf hf hn
theorem m_soundsOf {g : Gp} {h : AH} {Q : PQ} {f : Nat → Nat} {gv : Nat → List Nat} {op : Nat} {D : HD} {x : Int32} {st' : St} (w : Wf h) (hf : FamS h st') (hm : ModR h f gv op D) (kd : Kd h) (hz : (O1 f gv op D D.1 (fun l => nI (sos D f gv l 12)) x).1 = 0 → zL h 122 0 = (O1 f gv op D D.1 (fun l => nI (sos D f gv l 12)) x).2.1.toInt64) (hq : MQ2 st' (O1 f gv op D D.1 (fun l => nI (sos D f gv l 12)) x) Q) : Ev g mX10_soundsOf [vR 99, vI x] h Q := by
  have hD : hdOk D := hm.2.2.2.2.2.2.2
  have hg : ∀ m, m < 12 → Wok (gv m) := fun m q => (hm.2.2.2.1 m q).1
  have hD1 := hD.2.1
  have hD5 := hD.2.2.2.2.1
  refine e_msoundsOf hm ?_ ?_ 
  · intro l hl e0 h1 ms e9
    subst e0
    exact m_ms (st := (f, gv, _, D)) w hf hm kd hz hq (by unfold O1; rw [if_pos (inb_i hl (by omega))]; rw [cl_n (show l < 2 ^ 31 by omega)]) ms e9
  · intro e h1 ms e9
    exact m_ms (st := (f, gv, _, D)) w hf hm kd hz hq (by unfold O1; rw [if_neg (fls e)]) ms e9
theorem c_nearest {g : Gp} {h : AH} {Q : PQ} {f : Nat → Nat} {gv : Nat → List Nat} {op : Nat} {D : HD} {x : Int32} (w : Wf h) (hf : FamR h f gv op D) (hm : ModR h f gv op D) (kd : Kd h) (hq : CQ (f, gv, op, D) (O1 f gv op D D.1 (fun l => bI (nst (dsX D f gv l) l D.1).1) x) Q) : Ev g mL_nearest [vR 4, vI x, vR 122] h Q := by
  have hD : hdOk D := hm.2.2.2.2.2.2.2
  have hg : ∀ m, m < 12 → Wok (gv m) := fun m q => (hm.2.2.2.1 m q).1
  have hD1 := hD.2.1
  have hD5 := hD.2.2.2.2.1
  refine w_nearest hf.1.1.1 (e_nearest hf ?_ ?_ )
  · intro l hl e0 h1 fc fr
    subst e0
    exact c_ok (st := (f, gv, _, D)) (st' := (f, gv, op, D)) w hm kd hq (by unfold O1; rw [if_pos (inb_i hl (by omega))]; rw [cl_n (show l < 2 ^ 31 by omega)]) fc fr
  · intro e n hn
    exact c_nb (st := (f, gv, _, D)) (j := 0) w hm kd hq (by unfold O1; rw [if_neg (fls e)]; rfl) rfl (by decide) Kp.rf hf hn
theorem m_nearest {g : Gp} {h : AH} {Q : PQ} {f : Nat → Nat} {gv : Nat → List Nat} {op : Nat} {D : HD} {x : Int32} {st' : St} (w : Wf h) (hf : FamS h st') (hm : ModR h f gv op D) (kd : Kd h) (hz : (O1 f gv op D D.1 (fun l => bI (nst (dsX D f gv l) l D.1).1) x).1 = 0 → zL h 122 0 = (O1 f gv op D D.1 (fun l => bI (nst (dsX D f gv l) l D.1).1) x).2.1.toInt64) (hq : MQ2 st' (O1 f gv op D D.1 (fun l => bI (nst (dsX D f gv l) l D.1).1) x) Q) : Ev g mX10_nearest [vR 99, vI x] h Q := by
  have hD : hdOk D := hm.2.2.2.2.2.2.2
  have hg : ∀ m, m < 12 → Wok (gv m) := fun m q => (hm.2.2.2.1 m q).1
  have hD1 := hD.2.1
  have hD5 := hD.2.2.2.2.1
  refine e_mnearest hm ?_ ?_ 
  · intro l hl e0 h1 ms e9
    subst e0
    exact m_ms (st := (f, gv, _, D)) w hf hm kd hz hq (by unfold O1; rw [if_pos (inb_i hl (by omega))]; rw [cl_n (show l < 2 ^ 31 by omega)]) ms e9
  · intro e h1 ms e9
    exact m_ms (st := (f, gv, _, D)) w hf hm kd hz hq (by unfold O1; rw [if_neg (fls e)]) ms e9
theorem c_recalledWell {g : Gp} {h : AH} {Q : PQ} {f : Nat → Nat} {gv : Nat → List Nat} {op : Nat} {D : HD} {x : Int32} (w : Wf h) (hf : FamR h f gv op D) (hm : ModR h f gv op D) (kd : Kd h) (hq : CQ (f, gv, op, D) (O1 f gv op D D.1 (fun l => nI (rwl D f gv l 12)) x) Q) : Ev g mL_recalledWell [vR 4, vI x, vR 122] h Q := by
  have hD : hdOk D := hm.2.2.2.2.2.2.2
  have hg : ∀ m, m < 12 → Wok (gv m) := fun m q => (hm.2.2.2.1 m q).1
  have hD1 := hD.2.1
  have hD5 := hD.2.2.2.2.1
  refine w_recalledWell hf.1.1.1 (e_recalledWell hf ?_ ?_ )
  · intro l hl e0 h1 fc fr
    subst e0
    exact c_ok (st := (f, gv, _, D)) (st' := (f, gv, op, D)) w hm kd hq (by unfold O1; rw [if_pos (inb_i hl (by omega))]; rw [cl_n (show l < 2 ^ 31 by omega)]) fc fr
  · intro e n hn
    exact c_nb (st := (f, gv, _, D)) (j := 0) w hm kd hq (by unfold O1; rw [if_neg (fls e)]; rfl) rfl (by decide) Kp.rf hf hn
theorem m_recalledWell {g : Gp} {h : AH} {Q : PQ} {f : Nat → Nat} {gv : Nat → List Nat} {op : Nat} {D : HD} {x : Int32} {st' : St} (w : Wf h) (hf : FamS h st') (hm : ModR h f gv op D) (kd : Kd h) (hz : (O1 f gv op D D.1 (fun l => nI (rwl D f gv l 12)) x).1 = 0 → zL h 122 0 = (O1 f gv op D D.1 (fun l => nI (rwl D f gv l 12)) x).2.1.toInt64) (hq : MQ2 st' (O1 f gv op D D.1 (fun l => nI (rwl D f gv l 12)) x) Q) : Ev g mX10_recalledWell [vR 99, vI x] h Q := by
  have hD : hdOk D := hm.2.2.2.2.2.2.2
  have hg : ∀ m, m < 12 → Wok (gv m) := fun m q => (hm.2.2.2.1 m q).1
  have hD1 := hD.2.1
  have hD5 := hD.2.2.2.2.1
  refine e_mrecalledWell hm ?_ ?_ 
  · intro l hl e0 h1 ms e9
    subst e0
    exact m_ms (st := (f, gv, _, D)) w hf hm kd hz hq (by unfold O1; rw [if_pos (inb_i hl (by omega))]; rw [cl_n (show l < 2 ^ 31 by omega)]) ms e9
  · intro e h1 ms e9
    exact m_ms (st := (f, gv, _, D)) w hf hm kd hz hq (by unfold O1; rw [if_neg (fls e)]) ms e9
theorem c_withoutLoan {g : Gp} {h : AH} {Q : PQ} {f : Nat → Nat} {gv : Nat → List Nat} {op : Nat} {D : HD} {x : Int32} (w : Wf h) (hf : FamR h f gv op D) (hm : ModR h f gv op D) (kd : Kd h) (hq : CQ (f, gv, op, D) (O1 f gv op D D.2.2.2.length (fun i => nI (cdf (fun l => (cel D f gv (D.2.2.2.getD i w0).1 l).1) (fun l => (cel (lacN D i) f gv (D.2.2.2.getD i w0).1 l).1) D.1)) x) Q) : Ev g mL_withoutLoan [vR 4, vI x, vR 122] h Q := by
  have hD : hdOk D := hm.2.2.2.2.2.2.2
  have hg : ∀ m, m < 12 → Wok (gv m) := fun m q => (hm.2.2.2.1 m q).1
  have hD1 := hD.2.1
  have hD5 := hD.2.2.2.2.1
  refine w_withoutLoan hf.1.1.1 (e_withoutLoan hf ?_ ?_ )
  · intro i hi e0 h1 fc fr
    subst e0
    exact c_ok (st := (f, gv, _, D)) (st' := (f, gv, op, D)) w hm kd hq (by unfold O1; rw [if_pos (inb_i hi (by omega))]; rw [cl_n (show i < 2 ^ 31 by omega)]) fc fr
  · intro e n hn
    exact c_nb (st := (f, gv, _, D)) (j := 0) w hm kd hq (by unfold O1; rw [if_neg (fls e)]; rfl) rfl (by decide) Kp.rf hf hn
theorem m_withoutLoan {g : Gp} {h : AH} {Q : PQ} {f : Nat → Nat} {gv : Nat → List Nat} {op : Nat} {D : HD} {x : Int32} {st' : St} (w : Wf h) (hf : FamS h st') (hm : ModR h f gv op D) (kd : Kd h) (hz : (O1 f gv op D D.2.2.2.length (fun i => nI (cdf (fun l => (cel D f gv (D.2.2.2.getD i w0).1 l).1) (fun l => (cel (lacN D i) f gv (D.2.2.2.getD i w0).1 l).1) D.1)) x).1 = 0 → zL h 122 0 = (O1 f gv op D D.2.2.2.length (fun i => nI (cdf (fun l => (cel D f gv (D.2.2.2.getD i w0).1 l).1) (fun l => (cel (lacN D i) f gv (D.2.2.2.getD i w0).1 l).1) D.1)) x).2.1.toInt64) (hq : MQ2 st' (O1 f gv op D D.2.2.2.length (fun i => nI (cdf (fun l => (cel D f gv (D.2.2.2.getD i w0).1 l).1) (fun l => (cel (lacN D i) f gv (D.2.2.2.getD i w0).1 l).1) D.1)) x) Q) : Ev g mX10_withoutLoan [vR 99, vI x] h Q := by
  have hD : hdOk D := hm.2.2.2.2.2.2.2
  have hg : ∀ m, m < 12 → Wok (gv m) := fun m q => (hm.2.2.2.1 m q).1
  have hD1 := hD.2.1
  have hD5 := hD.2.2.2.2.1
  refine e_mwithoutLoan hm ?_ ?_ 
  · intro i hi e0 h1 mc mr e9
    subst e0
    exact m_any (st := (f, gv, _, D)) (st2 := (f, gv, op, D)) w hf hm kd hz hq (by unfold O1; rw [if_pos (inb_i hi (by omega))]; rw [cl_n (show i < 2 ^ 31 by omega)]) mc mr e9
  · intro e h1 ms e9
    exact m_ms (st := (f, gv, _, D)) w hf hm kd hz hq (by unfold O1; rw [if_neg (fls e)]) ms e9
theorem c_common {g : Gp} {h : AH} {Q : PQ} {f : Nat → Nat} {gv : Nat → List Nat} {op : Nat} {D : HD} {x y : Int32} (w : Wf h) (hf : FamR h f gv op D) (hm : ModR h f gv op D) (kd : Kd h) (hq : CQ (f, gv, op, D) (O2 f gv op D D.1 D.1 (fun l k => nI (cmn D.2.1 20 l k)) x y) Q) : Ev g mL_common [vR 4, vI x, vI y, vR 122] h Q := by
  have hD : hdOk D := hm.2.2.2.2.2.2.2
  have hg : ∀ m, m < 12 → Wok (gv m) := fun m q => (hm.2.2.2.1 m q).1
  have hD1 := hD.2.1
  have hD5 := hD.2.2.2.2.1
  refine w_common hf.1.1.1 (e_common hf ?_ ?_ )
  · intro l k hl hk e0 e1
    subst e0
    subst e1
    exact c_ok (st := (f, gv, _, D)) (st' := (f, gv, op, D)) w hm kd hq (by unfold O2; rw [if_pos (ba (inb_i hl (by omega)) (inb_i hk (by omega)))]; rw [cl_n (show l < 2 ^ 31 by omega), cl_n (show k < 2 ^ 31 by omega)]) Kp.rf hf
  · intro e n hn
    exact c_nb (st := (f, gv, _, D)) (j := 0) w hm kd hq (by unfold O2; rw [if_neg (fls e)]; rfl) rfl (by decide) Kp.rf hf hn
theorem m_common {g : Gp} {h : AH} {Q : PQ} {f : Nat → Nat} {gv : Nat → List Nat} {op : Nat} {D : HD} {x y : Int32} {st' : St} (w : Wf h) (hf : FamS h st') (hm : ModR h f gv op D) (kd : Kd h) (hz : (O2 f gv op D D.1 D.1 (fun l k => nI (cmn D.2.1 20 l k)) x y).1 = 0 → zL h 122 0 = (O2 f gv op D D.1 D.1 (fun l k => nI (cmn D.2.1 20 l k)) x y).2.1.toInt64) (hq : MQ2 st' (O2 f gv op D D.1 D.1 (fun l k => nI (cmn D.2.1 20 l k)) x y) Q) : Ev g mX10_common [vR 99, vI x, vI y] h Q := by
  have hD : hdOk D := hm.2.2.2.2.2.2.2
  have hg : ∀ m, m < 12 → Wok (gv m) := fun m q => (hm.2.2.2.1 m q).1
  have hD1 := hD.2.1
  have hD5 := hD.2.2.2.2.1
  refine e_mcommon hm ?_ ?_ 
  · intro l k hl hk e0 e1 h1 ms e9
    subst e0
    subst e1
    exact m_ms (st := (f, gv, _, D)) w hf hm kd hz hq (by unfold O2; rw [if_pos (ba (inb_i hl (by omega)) (inb_i hk (by omega)))]; rw [cl_n (show l < 2 ^ 31 by omega), cl_n (show k < 2 ^ 31 by omega)]) ms e9
  · intro e h1 ms e9
    exact m_ms (st := (f, gv, _, D)) w hf hm kd hz hq (by unfold O2; rw [if_neg (fls e)]) ms e9
theorem c_length {g : Gp} {h : AH} {Q : PQ} {f : Nat → Nat} {gv : Nat → List Nat} {op : Nat} {D : HD} {x y : Int32} (w : Wf h) (hf : FamR h f gv op D) (hm : ModR h f gv op D) (kd : Kd h) (hq : CQ (f, gv, op, D) (O2 f gv op D D.1 12 (fun l m => nI (cel D f gv m l).1.length) x y) Q) : Ev g mL_length [vR 4, vI x, vI y, vR 122] h Q := by
  have hD : hdOk D := hm.2.2.2.2.2.2.2
  have hg : ∀ m, m < 12 → Wok (gv m) := fun m q => (hm.2.2.2.1 m q).1
  have hD1 := hD.2.1
  have hD5 := hD.2.2.2.2.1
  refine w_length hf.1.1.1 (e_length hf ?_ ?_ )
  · intro l k hl hk e0 e1 h1 fc fr
    subst e0
    subst e1
    exact c_ok (st := (f, gv, _, D)) (st' := (f, gv, op, D)) w hm kd hq (by unfold O2; rw [if_pos (ba (inb_i hl (by omega)) (inb_i hk (by omega)))]; rw [cl_n (show l < 2 ^ 31 by omega), cl_n (show k < 2 ^ 31 by omega)]) fc fr
  · intro e n hn
    exact c_nb (st := (f, gv, _, D)) (j := 0) w hm kd hq (by unfold O2; rw [if_neg (fls e)]; rfl) rfl (by decide) Kp.rf hf hn
theorem m_length {g : Gp} {h : AH} {Q : PQ} {f : Nat → Nat} {gv : Nat → List Nat} {op : Nat} {D : HD} {x y : Int32} {st' : St} (w : Wf h) (hf : FamS h st') (hm : ModR h f gv op D) (kd : Kd h) (hz : (O2 f gv op D D.1 12 (fun l m => nI (cel D f gv m l).1.length) x y).1 = 0 → zL h 122 0 = (O2 f gv op D D.1 12 (fun l m => nI (cel D f gv m l).1.length) x y).2.1.toInt64) (hq : MQ2 st' (O2 f gv op D D.1 12 (fun l m => nI (cel D f gv m l).1.length) x y) Q) : Ev g mX10_length_ [vR 99, vI x, vI y] h Q := by
  have hD : hdOk D := hm.2.2.2.2.2.2.2
  have hg : ∀ m, m < 12 → Wok (gv m) := fun m q => (hm.2.2.2.1 m q).1
  have hD1 := hD.2.1
  have hD5 := hD.2.2.2.2.1
  refine e_mlength hm ?_ ?_ 
  · intro l k hl hk e0 e1 h1 ms e9
    subst e0
    subst e1
    exact m_ms (st := (f, gv, _, D)) w hf hm kd hz hq (by unfold O2; rw [if_pos (ba (inb_i hl (by omega)) (inb_i hk (by omega)))]; rw [cl_n (show l < 2 ^ 31 by omega), cl_n (show k < 2 ^ 31 by omega)]) ms e9
  · intro e h1 ms e9
    exact m_ms (st := (f, gv, _, D)) w hf hm kd hz hq (by unfold O2; rw [if_neg (fls e)]) ms e9
theorem c_origin {g : Gp} {h : AH} {Q : PQ} {f : Nat → Nat} {gv : Nat → List Nat} {op : Nat} {D : HD} {x y : Int32} (w : Wf h) (hf : FamR h f gv op D) (hm : ModR h f gv op D) (kd : Kd h) (hq : CQ (f, gv, op, D) (O2 f gv op D D.1 12 (fun l m => bI (cel D f gv m l).2.1) x y) Q) : Ev g mL_origin [vR 4, vI x, vI y, vR 122] h Q := by
  have hD : hdOk D := hm.2.2.2.2.2.2.2
  have hg : ∀ m, m < 12 → Wok (gv m) := fun m q => (hm.2.2.2.1 m q).1
  have hD1 := hD.2.1
  have hD5 := hD.2.2.2.2.1
  refine w_origin hf.1.1.1 (e_origin hf ?_ ?_ )
  · intro l k hl hk e0 e1 h1 fc fr
    subst e0
    subst e1
    exact c_ok (st := (f, gv, _, D)) (st' := (f, gv, op, D)) w hm kd hq (by unfold O2; rw [if_pos (ba (inb_i hl (by omega)) (inb_i hk (by omega)))]; rw [cl_n (show l < 2 ^ 31 by omega), cl_n (show k < 2 ^ 31 by omega)]) fc fr
  · intro e n hn
    exact c_nb (st := (f, gv, _, D)) (j := 0) w hm kd hq (by unfold O2; rw [if_neg (fls e)]; rfl) rfl (by decide) Kp.rf hf hn
theorem m_origin {g : Gp} {h : AH} {Q : PQ} {f : Nat → Nat} {gv : Nat → List Nat} {op : Nat} {D : HD} {x y : Int32} {st' : St} (w : Wf h) (hf : FamS h st') (hm : ModR h f gv op D) (kd : Kd h) (hz : (O2 f gv op D D.1 12 (fun l m => bI (cel D f gv m l).2.1) x y).1 = 0 → zL h 122 0 = (O2 f gv op D D.1 12 (fun l m => bI (cel D f gv m l).2.1) x y).2.1.toInt64) (hq : MQ2 st' (O2 f gv op D D.1 12 (fun l m => bI (cel D f gv m l).2.1) x y) Q) : Ev g mX10_origin [vR 99, vI x, vI y] h Q := by
  have hD : hdOk D := hm.2.2.2.2.2.2.2
  have hg : ∀ m, m < 12 → Wok (gv m) := fun m q => (hm.2.2.2.1 m q).1
  have hD1 := hD.2.1
  have hD5 := hD.2.2.2.2.1
  refine e_morigin hm ?_ ?_ 
  · intro l k hl hk e0 e1 h1 ms e9
    subst e0
    subst e1
    exact m_ms (st := (f, gv, _, D)) w hf hm kd hz hq (by unfold O2; rw [if_pos (ba (inb_i hl (by omega)) (inb_i hk (by omega)))]; rw [cl_n (show l < 2 ^ 31 by omega), cl_n (show k < 2 ^ 31 by omega)]) ms e9
  · intro e h1 ms e9
    exact m_ms (st := (f, gv, _, D)) w hf hm kd hz hq (by unfold O2; rw [if_neg (fls e)]) ms e9
theorem c_changedBy {g : Gp} {h : AH} {Q : PQ} {f : Nat → Nat} {gv : Nat → List Nat} {op : Nat} {D : HD} {x y : Int32} (w : Wf h) (hf : FamR h f gv op D) (hm : ModR h f gv op D) (kd : Kd h) (hq : CQ (f, gv, op, D) (O2 f gv op D D.1 12 (fun l m => nI (cel D f gv m l).2.2) x y) Q) : Ev g mL_changedBy [vR 4, vI x, vI y, vR 122] h Q := by
  have hD : hdOk D := hm.2.2.2.2.2.2.2
  have hg : ∀ m, m < 12 → Wok (gv m) := fun m q => (hm.2.2.2.1 m q).1
  have hD1 := hD.2.1
  have hD5 := hD.2.2.2.2.1
  refine w_changedBy hf.1.1.1 (e_changedBy hf ?_ ?_ )
  · intro l k hl hk e0 e1 h1 fc fr
    subst e0
    subst e1
    exact c_ok (st := (f, gv, _, D)) (st' := (f, gv, op, D)) w hm kd hq (by unfold O2; rw [if_pos (ba (inb_i hl (by omega)) (inb_i hk (by omega)))]; rw [cl_n (show l < 2 ^ 31 by omega), cl_n (show k < 2 ^ 31 by omega)]) fc fr
  · intro e n hn
    exact c_nb (st := (f, gv, _, D)) (j := 0) w hm kd hq (by unfold O2; rw [if_neg (fls e)]; rfl) rfl (by decide) Kp.rf hf hn
theorem m_changedBy {g : Gp} {h : AH} {Q : PQ} {f : Nat → Nat} {gv : Nat → List Nat} {op : Nat} {D : HD} {x y : Int32} {st' : St} (w : Wf h) (hf : FamS h st') (hm : ModR h f gv op D) (kd : Kd h) (hz : (O2 f gv op D D.1 12 (fun l m => nI (cel D f gv m l).2.2) x y).1 = 0 → zL h 122 0 = (O2 f gv op D D.1 12 (fun l m => nI (cel D f gv m l).2.2) x y).2.1.toInt64) (hq : MQ2 st' (O2 f gv op D D.1 12 (fun l m => nI (cel D f gv m l).2.2) x y) Q) : Ev g mX10_changedBy [vR 99, vI x, vI y] h Q := by
  have hD : hdOk D := hm.2.2.2.2.2.2.2
  have hg : ∀ m, m < 12 → Wok (gv m) := fun m q => (hm.2.2.2.1 m q).1
  have hD1 := hD.2.1
  have hD5 := hD.2.2.2.2.1
  refine e_mchangedBy hm ?_ ?_ 
  · intro l k hl hk e0 e1 h1 ms e9
    subst e0
    subst e1
    exact m_ms (st := (f, gv, _, D)) w hf hm kd hz hq (by unfold O2; rw [if_pos (ba (inb_i hl (by omega)) (inb_i hk (by omega)))]; rw [cl_n (show l < 2 ^ 31 by omega), cl_n (show k < 2 ^ 31 by omega)]) ms e9
  · intro e h1 ms e9
    exact m_ms (st := (f, gv, _, D)) w hf hm kd hz hq (by unfold O2; rw [if_neg (fls e)]) ms e9
theorem c_recalled {g : Gp} {h : AH} {Q : PQ} {f : Nat → Nat} {gv : Nat → List Nat} {op : Nat} {D : HD} {x y : Int32} (w : Wf h) (hf : FamR h f gv op D) (hm : ModR h f gv op D) (kd : Kd h) (hq : CQ (f, gv, op, D) (O2 f gv op D D.1 12 (fun l m => nI (rcl D f gv m l).length) x y) Q) : Ev g mL_recalled [vR 4, vI x, vI y, vR 122] h Q := by
  have hD : hdOk D := hm.2.2.2.2.2.2.2
  have hg : ∀ m, m < 12 → Wok (gv m) := fun m q => (hm.2.2.2.1 m q).1
  have hD1 := hD.2.1
  have hD5 := hD.2.2.2.2.1
  refine w_recalled hf.1.1.1 (e_recalled hf ?_ ?_ )
  · intro l k hl hk e0 e1 h1 fc fr
    subst e0
    subst e1
    exact c_ok (st := (f, gv, _, D)) (st' := (f, gv, op, D)) w hm kd hq (by unfold O2; rw [if_pos (ba (inb_i hl (by omega)) (inb_i hk (by omega)))]; rw [cl_n (show l < 2 ^ 31 by omega), cl_n (show k < 2 ^ 31 by omega)]) fc fr
  · intro e n hn
    exact c_nb (st := (f, gv, _, D)) (j := 0) w hm kd hq (by unfold O2; rw [if_neg (fls e)]; rfl) rfl (by decide) Kp.rf hf hn
theorem m_recalled {g : Gp} {h : AH} {Q : PQ} {f : Nat → Nat} {gv : Nat → List Nat} {op : Nat} {D : HD} {x y : Int32} {st' : St} (w : Wf h) (hf : FamS h st') (hm : ModR h f gv op D) (kd : Kd h) (hz : (O2 f gv op D D.1 12 (fun l m => nI (rcl D f gv m l).length) x y).1 = 0 → zL h 122 0 = (O2 f gv op D D.1 12 (fun l m => nI (rcl D f gv m l).length) x y).2.1.toInt64) (hq : MQ2 st' (O2 f gv op D D.1 12 (fun l m => nI (rcl D f gv m l).length) x y) Q) : Ev g mX10_recalled [vR 99, vI x, vI y] h Q := by
  have hD : hdOk D := hm.2.2.2.2.2.2.2
  have hg : ∀ m, m < 12 → Wok (gv m) := fun m q => (hm.2.2.2.1 m q).1
  have hD1 := hD.2.1
  have hD5 := hD.2.2.2.2.1
  refine e_mrecalled hm ?_ ?_ 
  · intro l k hl hk e0 e1 h1 ms e9
    subst e0
    subst e1
    exact m_ms (st := (f, gv, _, D)) w hf hm kd hz hq (by unfold O2; rw [if_pos (ba (inb_i hl (by omega)) (inb_i hk (by omega)))]; rw [cl_n (show l < 2 ^ 31 by omega), cl_n (show k < 2 ^ 31 by omega)]) ms e9
  · intro e h1 ms e9
    exact m_ms (st := (f, gv, _, D)) w hf hm kd hz hq (by unfold O2; rw [if_neg (fls e)]) ms e9
theorem c_looksLent {g : Gp} {h : AH} {Q : PQ} {f : Nat → Nat} {gv : Nat → List Nat} {op : Nat} {D : HD} {x y : Int32} (w : Wf h) (hf : FamR h f gv op D) (hm : ModR h f gv op D) (kd : Kd h) (hq : CQ (f, gv, op, D) (O2 f gv op D D.1 12 (fun l m => if (cel D f gv m l).1 = (cel (noL D) f gv m l).1 then 0 else 1) x y) Q) : Ev g mL_looksLent [vR 4, vI x, vI y, vR 122] h Q := by
  have hD : hdOk D := hm.2.2.2.2.2.2.2
  have hg : ∀ m, m < 12 → Wok (gv m) := fun m q => (hm.2.2.2.1 m q).1
  have hD1 := hD.2.1
  have hD5 := hD.2.2.2.2.1
  refine w_looksLent hf.1.1.1 (e_looksLent hf ?_ ?_ )
  · intro l k hl hk e0 e1 h1 fc fr
    subst e0
    subst e1
    have q0 := c_ok (st := (f, gv, _, D)) (st' := (f, gv, op, D)) (ks := [1]) (v := if (cel D f gv k l).1 = (cel (noL D) f gv k l).1 then 0 else 1) w hm kd hq (by unfold O2; rw [if_pos (ba (inb_i hl (by omega)) (inb_i hk (by omega)))]; rw [cl_n (show l < 2 ^ 31 by omega), cl_n (show k < 2 ^ 31 by omega)]) fc fr
    exact ⟨q0.1, by split <;> simp, q0.2⟩
  · intro e n hn
    have q0 := c_nb (st := (f, gv, _, D)) (ks := [1]) (j := 0) (k := 1) w hm kd hq (by unfold O2; rw [if_neg (fls e)]; rfl) rfl (by decide) Kp.rf hf hn
    exact q0
theorem m_looksLent {g : Gp} {h : AH} {Q : PQ} {f : Nat → Nat} {gv : Nat → List Nat} {op : Nat} {D : HD} {x y : Int32} {st' : St} (w : Wf h) (hf : FamS h st') (hm : ModR h f gv op D) (kd : Kd h) (hz : (O2 f gv op D D.1 12 (fun l m => if (cel D f gv m l).1 = (cel (noL D) f gv m l).1 then 0 else 1) x y).1 = 0 → zL h 122 0 = (O2 f gv op D D.1 12 (fun l m => if (cel D f gv m l).1 = (cel (noL D) f gv m l).1 then 0 else 1) x y).2.1.toInt64) (hq : MQ2 st' (O2 f gv op D D.1 12 (fun l m => if (cel D f gv m l).1 = (cel (noL D) f gv m l).1 then 0 else 1) x y) Q) : Ev g mX10_looksLent [vR 99, vI x, vI y] h Q := by
  have hD : hdOk D := hm.2.2.2.2.2.2.2
  have hg : ∀ m, m < 12 → Wok (gv m) := fun m q => (hm.2.2.2.1 m q).1
  have hD1 := hD.2.1
  have hD5 := hD.2.2.2.2.1
  refine e_mlooksLent hm ?_ ?_ 
  · intro l k hl hk e0 e1 h1 ms e9
    subst e0
    subst e1
    exact m_ms (st := (f, gv, _, D)) w hf hm kd hz hq (by unfold O2; rw [if_pos (ba (inb_i hl (by omega)) (inb_i hk (by omega)))]; rw [cl_n (show l < 2 ^ 31 by omega), cl_n (show k < 2 ^ 31 by omega)]) ms e9
  · intro e h1 ms e9
    exact m_ms (st := (f, gv, _, D)) w hf hm kd hz hq (by unfold O2; rw [if_neg (fls e)]) ms e9
theorem c_soundAt {g : Gp} {h : AH} {Q : PQ} {f : Nat → Nat} {gv : Nat → List Nat} {op : Nat} {D : HD} {x y z : Int32} (w : Wf h) (hf : FamR h f gv op D) (hm : ModR h f gv op D) (kd : Kd h) (hq : CQ (f, gv, op, D) (O3 f gv op D (fun l m => (cel D f gv m l).1.length) (fun l m p => nI ((cel D f gv m l).1.getD p 0)) x y z) Q) : Ev g mL_soundAt [vR 4, vI x, vI y, vI z, vR 122] h Q := by
  have hD : hdOk D := hm.2.2.2.2.2.2.2
  have hg : ∀ m, m < 12 → Wok (gv m) := fun m q => (hm.2.2.2.1 m q).1
  have hD1 := hD.2.1
  have hD5 := hD.2.2.2.2.1
  have LEN : ∀ {l k : Nat}, l < D.1 → k < 12 → (cel D f gv k l).1.length ≤ 10 := fun hl hk => (cel_ok hD (hg _ hk) hl).1.1
  refine w_soundAt hf.1.1.1 (e_soundAt hf ?_ ?_ )
  · intro l k hl hk e0 e1 h1 fc fr
    subst e0
    subst e1
    refine ⟨fun p hp e2 => ?_, fun e n hn => ?_⟩
    · subst e2
      exact c_ok (st := (f, gv, _, D)) (st' := (f, gv, op, D)) w hm kd hq (by unfold O3; rw [if_pos (ba (inb_i hl (by omega)) (inb_i hk (by decide)))]; rw [cl_n (show l < 2 ^ 31 by omega)]; rw [cl_n (show k < 2 ^ 31 by omega)]; rw [if_pos (inb_i hp (by have := LEN hl hk; omega))]; rw [cl_n (show p < 2 ^ 31 by have := LEN hl hk; omega)]) fc fr
    · exact c_nb (st := (f, gv, _, D)) (j := 0) w hm kd hq (by unfold O3; rw [if_pos (ba (inb_i hl (by omega)) (inb_i hk (by decide)))]; rw [cl_n (show l < 2 ^ 31 by omega)]; rw [cl_n (show k < 2 ^ 31 by omega)]; rw [if_neg (fls e)]; rfl) rfl (by decide) fc fr hn
  · intro e n hn
    exact c_nb (st := (f, gv, _, D)) (j := 0) w hm kd hq (by unfold O3; rw [if_neg (fls e)]; rfl) rfl (by decide) Kp.rf hf hn
theorem m_soundAt {g : Gp} {h : AH} {Q : PQ} {f : Nat → Nat} {gv : Nat → List Nat} {op : Nat} {D : HD} {x y z : Int32} {st' : St} (w : Wf h) (hf : FamS h st') (hm : ModR h f gv op D) (kd : Kd h) (hz : (O3 f gv op D (fun l m => (cel D f gv m l).1.length) (fun l m p => nI ((cel D f gv m l).1.getD p 0)) x y z).1 = 0 → zL h 122 0 = (O3 f gv op D (fun l m => (cel D f gv m l).1.length) (fun l m p => nI ((cel D f gv m l).1.getD p 0)) x y z).2.1.toInt64) (hq : MQ2 st' (O3 f gv op D (fun l m => (cel D f gv m l).1.length) (fun l m p => nI ((cel D f gv m l).1.getD p 0)) x y z) Q) : Ev g mX10_soundAt [vR 99, vI x, vI y, vI z] h Q := by
  have hD : hdOk D := hm.2.2.2.2.2.2.2
  have hg : ∀ m, m < 12 → Wok (gv m) := fun m q => (hm.2.2.2.1 m q).1
  have hD1 := hD.2.1
  have hD5 := hD.2.2.2.2.1
  have LEN : ∀ {l k : Nat}, l < D.1 → k < 12 → (cel D f gv k l).1.length ≤ 10 := fun hl hk => (cel_ok hD (hg _ hk) hl).1.1
  refine e_msoundAt hm ?_ ?_ 
  · intro l k hl hk e0 e1
    subst e0
    subst e1
    refine ⟨fun p hp e2 h1 ms e9 => ?_, fun e h1 ms e9 => ?_⟩
    · subst e2
      exact m_ms (st := (f, gv, _, D)) w hf hm kd hz hq (by unfold O3; rw [if_pos (ba (inb_i hl (by omega)) (inb_i hk (by decide)))]; rw [cl_n (show l < 2 ^ 31 by omega)]; rw [cl_n (show k < 2 ^ 31 by omega)]; rw [if_pos (inb_i hp (by have := LEN hl hk; omega))]; rw [cl_n (show p < 2 ^ 31 by have := LEN hl hk; omega)]) ms e9
    · exact m_ms (st := (f, gv, _, D)) w hf hm kd hz hq (by unfold O3; rw [if_pos (ba (inb_i hl (by omega)) (inb_i hk (by decide)))]; rw [cl_n (show l < 2 ^ 31 by omega)]; rw [cl_n (show k < 2 ^ 31 by omega)]; rw [if_neg (fls e)]) ms e9
  · intro e h1 ms e9
    exact m_ms (st := (f, gv, _, D)) w hf hm kd hz hq (by unfold O3; rw [if_neg (fls e)]) ms e9
theorem c_recalledAt {g : Gp} {h : AH} {Q : PQ} {f : Nat → Nat} {gv : Nat → List Nat} {op : Nat} {D : HD} {x y z : Int32} (w : Wf h) (hf : FamR h f gv op D) (hm : ModR h f gv op D) (kd : Kd h) (hq : CQ (f, gv, op, D) (O3 f gv op D (fun l m => (rcl D f gv m l).length) (fun l m p => nI ((rcl D f gv m l).getD p 0)) x y z) Q) : Ev g mL_recalledAt [vR 4, vI x, vI y, vI z, vR 122] h Q := by
  have hD : hdOk D := hm.2.2.2.2.2.2.2
  have hg : ∀ m, m < 12 → Wok (gv m) := fun m q => (hm.2.2.2.1 m q).1
  have hD1 := hD.2.1
  have hD5 := hD.2.2.2.2.1
  have LEN : ∀ {l k : Nat}, l < D.1 → k < 12 → (rcl D f gv k l).length ≤ 10 := fun hl hk => (rcl_ok fun d hd => (cel_ok hD (hg _ hk) hd).1).1
  refine w_recalledAt hf.1.1.1 (e_recalledAt hf ?_ ?_ )
  · intro l k hl hk e0 e1 h1 fc fr
    subst e0
    subst e1
    refine ⟨fun p hp e2 => ?_, fun e n hn => ?_⟩
    · subst e2
      exact c_ok (st := (f, gv, _, D)) (st' := (f, gv, op, D)) w hm kd hq (by unfold O3; rw [if_pos (ba (inb_i hl (by omega)) (inb_i hk (by decide)))]; rw [cl_n (show l < 2 ^ 31 by omega)]; rw [cl_n (show k < 2 ^ 31 by omega)]; rw [if_pos (inb_i hp (by have := LEN hl hk; omega))]; rw [cl_n (show p < 2 ^ 31 by have := LEN hl hk; omega)]) fc fr
    · exact c_nb (st := (f, gv, _, D)) (j := 0) w hm kd hq (by unfold O3; rw [if_pos (ba (inb_i hl (by omega)) (inb_i hk (by decide)))]; rw [cl_n (show l < 2 ^ 31 by omega)]; rw [cl_n (show k < 2 ^ 31 by omega)]; rw [if_neg (fls e)]; rfl) rfl (by decide) fc fr hn
  · intro e n hn
    exact c_nb (st := (f, gv, _, D)) (j := 0) w hm kd hq (by unfold O3; rw [if_neg (fls e)]; rfl) rfl (by decide) Kp.rf hf hn
theorem m_recalledAt {g : Gp} {h : AH} {Q : PQ} {f : Nat → Nat} {gv : Nat → List Nat} {op : Nat} {D : HD} {x y z : Int32} {st' : St} (w : Wf h) (hf : FamS h st') (hm : ModR h f gv op D) (kd : Kd h) (hz : (O3 f gv op D (fun l m => (rcl D f gv m l).length) (fun l m p => nI ((rcl D f gv m l).getD p 0)) x y z).1 = 0 → zL h 122 0 = (O3 f gv op D (fun l m => (rcl D f gv m l).length) (fun l m p => nI ((rcl D f gv m l).getD p 0)) x y z).2.1.toInt64) (hq : MQ2 st' (O3 f gv op D (fun l m => (rcl D f gv m l).length) (fun l m p => nI ((rcl D f gv m l).getD p 0)) x y z) Q) : Ev g mX10_recalledAt [vR 99, vI x, vI y, vI z] h Q := by
  have hD : hdOk D := hm.2.2.2.2.2.2.2
  have hg : ∀ m, m < 12 → Wok (gv m) := fun m q => (hm.2.2.2.1 m q).1
  have hD1 := hD.2.1
  have hD5 := hD.2.2.2.2.1
  have LEN : ∀ {l k : Nat}, l < D.1 → k < 12 → (rcl D f gv k l).length ≤ 10 := fun hl hk => (rcl_ok fun d hd => (cel_ok hD (hg _ hk) hd).1).1
  refine e_mrecalledAt hm ?_ ?_ 
  · intro l k hl hk e0 e1
    subst e0
    subst e1
    refine ⟨fun p hp e2 h1 ms e9 => ?_, fun e h1 ms e9 => ?_⟩
    · subst e2
      exact m_ms (st := (f, gv, _, D)) w hf hm kd hz hq (by unfold O3; rw [if_pos (ba (inb_i hl (by omega)) (inb_i hk (by decide)))]; rw [cl_n (show l < 2 ^ 31 by omega)]; rw [cl_n (show k < 2 ^ 31 by omega)]; rw [if_pos (inb_i hp (by have := LEN hl hk; omega))]; rw [cl_n (show p < 2 ^ 31 by have := LEN hl hk; omega)]) ms e9
    · exact m_ms (st := (f, gv, _, D)) w hf hm kd hz hq (by unfold O3; rw [if_pos (ba (inb_i hl (by omega)) (inb_i hk (by decide)))]; rw [cl_n (show l < 2 ^ 31 by omega)]; rw [cl_n (show k < 2 ^ 31 by omega)]; rw [if_neg (fls e)]) ms e9
  · intro e h1 ms e9
    exact m_ms (st := (f, gv, _, D)) w hf hm kd hz hq (by unfold O3; rw [if_neg (fls e)]) ms e9
theorem c_cost {g : Gp} {h : AH} {Q : PQ} {f : Nat → Nat} {gv : Nat → List Nat} {op : Nat} {D : HD} {a0 a1 a2 : Int32} (w : Wf h) (hf : FamR h f gv op D) (hm : ModR h f gv op D) (kd : Kd h) (hq : CQ (f, gv, op, D) (O4 f gv op D (fun m i j => hI (cwo f (cel D f gv m i).1 (cel D f gv m j).1)) a0 a1 a2) Q) : Ev g mL_cost [vR 4, vI a0, vI a1, vI a2, vR 122] h Q := by
  have hD : hdOk D := hm.2.2.2.2.2.2.2
  have hg : ∀ m, m < 12 → Wok (gv m) := fun m q => (hm.2.2.2.1 m q).1
  have hD1 := hD.2.1
  have hD5 := hD.2.2.2.2.1
  refine w_cost hf.1.1.1 (e_cost hf ?_ ?_ ?_ )
  · intro m i j hm0 hi hj e0 e1 e2 h1 fc fr
    subst e0
    subst e1
    subst e2
    exact c_ok (st := (f, gv, _, D)) (st' := (f, gv, op, D)) w hm kd hq (by unfold O4; rw [if_pos (ba (inb_i hi (by omega)) (inb_i hj (by omega)))]; rw [if_pos (inb_i hm0 (by decide))]; rw [cl_n (show m < 2 ^ 31 by omega), cl_n (show i < 2 ^ 31 by omega), cl_n (show j < 2 ^ 31 by omega)]) fc fr
  · intro e n hn
    exact c_nb (st := (f, gv, _, D)) (j := 0) w hm kd hq (by unfold O4; rw [if_neg (fls e)]; rfl) rfl (by decide) Kp.rf hf hn
  · intro e e2 n hn
    exact c_nb (st := (f, gv, _, D)) (j := 1) w hm kd hq (by unfold O4; rw [if_pos e]; rw [if_neg (fls e2)]; rfl) rfl (by decide) Kp.rf hf hn
theorem m_cost {g : Gp} {h : AH} {Q : PQ} {f : Nat → Nat} {gv : Nat → List Nat} {op : Nat} {D : HD} {a0 a1 a2 : Int32} {st' : St} (w : Wf h) (hf : FamS h st') (hm : ModR h f gv op D) (kd : Kd h) (hz : (O4 f gv op D (fun m i j => hI (cwo f (cel D f gv m i).1 (cel D f gv m j).1)) a0 a1 a2).1 = 0 → zL h 122 0 = (O4 f gv op D (fun m i j => hI (cwo f (cel D f gv m i).1 (cel D f gv m j).1)) a0 a1 a2).2.1.toInt64) (hq : MQ2 st' (O4 f gv op D (fun m i j => hI (cwo f (cel D f gv m i).1 (cel D f gv m j).1)) a0 a1 a2) Q) : Ev g mX10_cost [vR 99, vI a0, vI a1, vI a2] h Q := by
  have hD : hdOk D := hm.2.2.2.2.2.2.2
  have hg : ∀ m, m < 12 → Wok (gv m) := fun m q => (hm.2.2.2.1 m q).1
  have hD1 := hD.2.1
  have hD5 := hD.2.2.2.2.1
  refine e_mcost hm ?_ ?_ ?_ 
  · intro m i j hm0 hi hj e0 e1 e2 h1 ms e9
    subst e0
    subst e1
    subst e2
    exact m_ms (st := (f, gv, _, D)) w hf hm kd hz hq (by unfold O4; rw [if_pos (ba (inb_i hi (by omega)) (inb_i hj (by omega)))]; rw [if_pos (inb_i hm0 (by decide))]; rw [cl_n (show m < 2 ^ 31 by omega), cl_n (show i < 2 ^ 31 by omega), cl_n (show j < 2 ^ 31 by omega)]) ms e9
  · intro e h1 ms e9
    exact m_ms (st := (f, gv, _, D)) w hf hm kd hz hq (by unfold O4; rw [if_neg (fls e)]) ms e9
  · intro e e2 h1 ms e9
    exact m_ms (st := (f, gv, _, D)) w hf hm kd hz hq (by unfold O4; rw [if_pos e]; rw [if_neg (fls e2)]) ms e9
theorem c_columns {g : Gp} {h : AH} {Q : PQ} {f : Nat → Nat} {gv : Nat → List Nat} {op : Nat} {D : HD} {a0 a1 a2 : Int32} (w : Wf h) (hf : FamR h f gv op D) (hm : ModR h f gv op D) (kd : Kd h) (hq : CQ (f, gv, op, D) (O4 f gv op D (fun m i j => nI (clo f (cel D f gv m i).1 (cel D f gv m j).1).length) a0 a1 a2) Q) : Ev g mL_columns [vR 4, vI a0, vI a1, vI a2, vR 122] h Q := by
  have hD : hdOk D := hm.2.2.2.2.2.2.2
  have hg : ∀ m, m < 12 → Wok (gv m) := fun m q => (hm.2.2.2.1 m q).1
  have hD1 := hD.2.1
  have hD5 := hD.2.2.2.2.1
  refine w_columns hf.1.1.1 (e_columns hf ?_ ?_ ?_ )
  · intro m i j hm0 hi hj e0 e1 e2 h1 fc fr
    subst e0
    subst e1
    subst e2
    exact c_ok (st := (f, gv, _, D)) (st' := (f, gv, op, D)) w hm kd hq (by unfold O4; rw [if_pos (ba (inb_i hi (by omega)) (inb_i hj (by omega)))]; rw [if_pos (inb_i hm0 (by decide))]; rw [cl_n (show m < 2 ^ 31 by omega), cl_n (show i < 2 ^ 31 by omega), cl_n (show j < 2 ^ 31 by omega)]) fc fr
  · intro e n hn
    exact c_nb (st := (f, gv, _, D)) (j := 0) w hm kd hq (by unfold O4; rw [if_neg (fls e)]; rfl) rfl (by decide) Kp.rf hf hn
  · intro e e2 n hn
    exact c_nb (st := (f, gv, _, D)) (j := 1) w hm kd hq (by unfold O4; rw [if_pos e]; rw [if_neg (fls e2)]; rfl) rfl (by decide) Kp.rf hf hn
theorem m_columns {g : Gp} {h : AH} {Q : PQ} {f : Nat → Nat} {gv : Nat → List Nat} {op : Nat} {D : HD} {a0 a1 a2 : Int32} {st' : St} (w : Wf h) (hf : FamS h st') (hm : ModR h f gv op D) (kd : Kd h) (hz : (O4 f gv op D (fun m i j => nI (clo f (cel D f gv m i).1 (cel D f gv m j).1).length) a0 a1 a2).1 = 0 → zL h 122 0 = (O4 f gv op D (fun m i j => nI (clo f (cel D f gv m i).1 (cel D f gv m j).1).length) a0 a1 a2).2.1.toInt64) (hq : MQ2 st' (O4 f gv op D (fun m i j => nI (clo f (cel D f gv m i).1 (cel D f gv m j).1).length) a0 a1 a2) Q) : Ev g mX10_columns [vR 99, vI a0, vI a1, vI a2] h Q := by
  have hD : hdOk D := hm.2.2.2.2.2.2.2
  have hg : ∀ m, m < 12 → Wok (gv m) := fun m q => (hm.2.2.2.1 m q).1
  have hD1 := hD.2.1
  have hD5 := hD.2.2.2.2.1
  refine e_mcolumns hm ?_ ?_ ?_ 
  · intro m i j hm0 hi hj e0 e1 e2 h1 ms e9
    subst e0
    subst e1
    subst e2
    exact m_ms (st := (f, gv, _, D)) w hf hm kd hz hq (by unfold O4; rw [if_pos (ba (inb_i hi (by omega)) (inb_i hj (by omega)))]; rw [if_pos (inb_i hm0 (by decide))]; rw [cl_n (show m < 2 ^ 31 by omega), cl_n (show i < 2 ^ 31 by omega), cl_n (show j < 2 ^ 31 by omega)]) ms e9
  · intro e h1 ms e9
    exact m_ms (st := (f, gv, _, D)) w hf hm kd hz hq (by unfold O4; rw [if_neg (fls e)]) ms e9
  · intro e e2 h1 ms e9
    exact m_ms (st := (f, gv, _, D)) w hf hm kd hz hq (by unfold O4; rw [if_pos e]; rw [if_neg (fls e2)]) ms e9
theorem c_columnAt {g : Gp} {h : AH} {Q : PQ} {f : Nat → Nat} {gv : Nat → List Nat} {op : Nat} {D : HD} {a0 a1 a2 a3 : Int32} (w : Wf h) (hf : FamR h f gv op D) (hm : ModR h f gv op D) (kd : Kd h) (hq : CQ (f, gv, op, D) (O5 f gv op D (fun m i j => (clo f (cel D f gv m i).1 (cel D f gv m j).1).length) (fun m i j c => nI (16 * ((clo f (cel D f gv m i).1 (cel D f gv m j).1).getD c (0, 0)).1 + ((clo f (cel D f gv m i).1 (cel D f gv m j).1).getD c (0, 0)).2)) a0 a1 a2 a3) Q) : Ev g mL_columnAt [vR 4, vI a0, vI a1, vI a2, vI a3, vR 122] h Q := by
  have hD : hdOk D := hm.2.2.2.2.2.2.2
  have hg : ∀ m, m < 12 → Wok (gv m) := fun m q => (hm.2.2.2.1 m q).1
  have hD1 := hD.2.1
  have hD5 := hD.2.2.2.2.1
  have LEN : ∀ {m i j : Nat}, m < 12 → i < D.1 → j < D.1 → (clo f (cel D f gv m i).1 (cel D f gv m j).1).length ≤ 20 := fun hm hi hj => clo_len (cel_ok hD (hg _ hm) hi).1 (cel_ok hD (hg _ hm) hj).1
  refine w_columnAt hf.1.1.1 (e_columnAt hf ?_ ?_ ?_ ?_ )
  · intro m i j c hm0 hi hj hc e0 e1 e2 e3 h1 fc fr
    subst e0
    subst e1
    subst e2
    subst e3
    exact c_ok (st := (f, gv, _, D)) (st' := (f, gv, op, D)) w hm kd hq (by unfold O5; rw [if_pos (ba (inb_i hi (by omega)) (inb_i hj (by omega)))]; rw [if_pos (inb_i hm0 (by decide))]; rw [cl_n (show m < 2 ^ 31 by omega)]; rw [cl_n (show i < 2 ^ 31 by omega)]; rw [cl_n (show j < 2 ^ 31 by omega)]; rw [if_pos (inb_i hc (by have := LEN hm0 hi hj; omega))]; rw [cl_n (show c < 2 ^ 31 by have := LEN hm0 hi hj; omega)]) fc fr
  · intro e n hn
    exact c_nb (st := (f, gv, _, D)) (j := 0) w hm kd hq (by unfold O5; rw [if_neg (fls e)]; rfl) rfl (by decide) Kp.rf hf hn
  · intro e e2 n hn
    exact c_nb (st := (f, gv, _, D)) (j := 1) w hm kd hq (by unfold O5; rw [if_pos e]; rw [if_neg (fls e2)]; rfl) rfl (by decide) Kp.rf hf hn
  · intro m i j hm0 hi hj e0 e1 e2 e3 h1 fc fr n hn
    subst e0
    subst e1
    subst e2
    exact c_nb (st := (f, gv, _, D)) (j := 1) w hm kd hq (by unfold O5; rw [if_pos (ba (inb_i hi (by omega)) (inb_i hj (by omega)))]; rw [if_pos (inb_i hm0 (by decide))]; rw [cl_n (show m < 2 ^ 31 by omega)]; rw [cl_n (show i < 2 ^ 31 by omega)]; rw [cl_n (show j < 2 ^ 31 by omega)]; rw [if_neg (fls e3)]; rfl) rfl (by decide) fc fr hn
theorem m_columnAt {g : Gp} {h : AH} {Q : PQ} {f : Nat → Nat} {gv : Nat → List Nat} {op : Nat} {D : HD} {a0 a1 a2 a3 : Int32} {st' : St} (w : Wf h) (hf : FamS h st') (hm : ModR h f gv op D) (kd : Kd h) (hz : (O5 f gv op D (fun m i j => (clo f (cel D f gv m i).1 (cel D f gv m j).1).length) (fun m i j c => nI (16 * ((clo f (cel D f gv m i).1 (cel D f gv m j).1).getD c (0, 0)).1 + ((clo f (cel D f gv m i).1 (cel D f gv m j).1).getD c (0, 0)).2)) a0 a1 a2 a3).1 = 0 → zL h 122 0 = (O5 f gv op D (fun m i j => (clo f (cel D f gv m i).1 (cel D f gv m j).1).length) (fun m i j c => nI (16 * ((clo f (cel D f gv m i).1 (cel D f gv m j).1).getD c (0, 0)).1 + ((clo f (cel D f gv m i).1 (cel D f gv m j).1).getD c (0, 0)).2)) a0 a1 a2 a3).2.1.toInt64) (hq : MQ2 st' (O5 f gv op D (fun m i j => (clo f (cel D f gv m i).1 (cel D f gv m j).1).length) (fun m i j c => nI (16 * ((clo f (cel D f gv m i).1 (cel D f gv m j).1).getD c (0, 0)).1 + ((clo f (cel D f gv m i).1 (cel D f gv m j).1).getD c (0, 0)).2)) a0 a1 a2 a3) Q) : Ev g mX10_columnAt [vR 99, vI a0, vI a1, vI a2, vI a3] h Q := by
  have hD : hdOk D := hm.2.2.2.2.2.2.2
  have hg : ∀ m, m < 12 → Wok (gv m) := fun m q => (hm.2.2.2.1 m q).1
  have hD1 := hD.2.1
  have hD5 := hD.2.2.2.2.1
  have LEN : ∀ {m i j : Nat}, m < 12 → i < D.1 → j < D.1 → (clo f (cel D f gv m i).1 (cel D f gv m j).1).length ≤ 20 := fun hm hi hj => clo_len (cel_ok hD (hg _ hm) hi).1 (cel_ok hD (hg _ hm) hj).1
  refine e_mcolumnAt hm ?_ ?_ ?_ ?_ 
  · intro m i j c hm0 hi hj hc e0 e1 e2 e3 h1 ms e9
    subst e0
    subst e1
    subst e2
    subst e3
    exact m_ms (st := (f, gv, _, D)) w hf hm kd hz hq (by unfold O5; rw [if_pos (ba (inb_i hi (by omega)) (inb_i hj (by omega)))]; rw [if_pos (inb_i hm0 (by decide))]; rw [cl_n (show m < 2 ^ 31 by omega)]; rw [cl_n (show i < 2 ^ 31 by omega)]; rw [cl_n (show j < 2 ^ 31 by omega)]; rw [if_pos (inb_i hc (by have := LEN hm0 hi hj; omega))]; rw [cl_n (show c < 2 ^ 31 by have := LEN hm0 hi hj; omega)]) ms e9
  · intro e h1 ms e9
    exact m_ms (st := (f, gv, _, D)) w hf hm kd hz hq (by unfold O5; rw [if_neg (fls e)]) ms e9
  · intro e e2 h1 ms e9
    exact m_ms (st := (f, gv, _, D)) w hf hm kd hz hq (by unfold O5; rw [if_pos e]; rw [if_neg (fls e2)]) ms e9
  · intro m i j hm0 hi hj e0 e1 e2 e3 h1 ms e9
    subst e0
    subst e1
    subst e2
    exact m_ms (st := (f, gv, _, D)) w hf hm kd hz hq (by unfold O5; rw [if_pos (ba (inb_i hi (by omega)) (inb_i hj (by omega)))]; rw [if_pos (inb_i hm0 (by decide))]; rw [cl_n (show m < 2 ^ 31 by omega)]; rw [cl_n (show i < 2 ^ 31 by omega)]; rw [cl_n (show j < 2 ^ 31 by omega)]; rw [if_neg (fls e3)]) ms e9
theorem c_answers {g : Gp} {h : AH} {Q : PQ} {f : Nat → Nat} {gv : Nat → List Nat} {op : Nat} {D : HD} {a0 a1 a2 a3 : Int32} (w : Wf h) (hf : FamR h f gv op D) (hm : ModR h f gv op D) (kd : Kd h) (hq : CQ (f, gv, op, D) (O6 f gv op D (fun i j s t => nI (anw D f gv i j (sg s) (sg t))) a0 a1 a2 a3) Q) : Ev g mL_answers [vR 4, vI a0, vI a1, vI a2, vI a3, vR 122] h Q := by
  have hD : hdOk D := hm.2.2.2.2.2.2.2
  have hg : ∀ m, m < 12 → Wok (gv m) := fun m q => (hm.2.2.2.1 m q).1
  have hD1 := hD.2.1
  have hD5 := hD.2.2.2.2.1
  refine w_answers hf.1.1.1 (e_answers hf ?_ ?_ ?_ )
  · intro i j s t hi hj hs ht e0 e1 e2 e3 h1 fc fr
    subst e0
    subst e1
    subst e2
    subst e3
    exact c_ok (st := (f, gv, _, D)) (st' := (f, gv, op, D)) w hm kd hq (by unfold O6; rw [if_pos (ba (inb_i hi (by omega)) (inb_i hj (by omega)))]; rw [if_pos (ba (okN_n hs) (okN_n ht))]; rw [cl_n (show i < 2 ^ 31 by omega), cl_n (show j < 2 ^ 31 by omega), cb_b (show s < 2 ^ 31 by omega), cb_b (show t < 2 ^ 31 by omega)]) fc fr
  · intro e n hn
    exact c_nb (st := (f, gv, _, D)) (j := 0) w hm kd hq (by unfold O6; rw [if_neg (fls e)]; rfl) rfl (by decide) Kp.rf hf hn
  · intro e e2 n hn
    exact c_nb (st := (f, gv, _, D)) (j := 1) w hm kd hq (by unfold O6; rw [if_pos e]; rw [if_neg (fls e2)]; rfl) rfl (by decide) Kp.rf hf hn
theorem m_answers {g : Gp} {h : AH} {Q : PQ} {f : Nat → Nat} {gv : Nat → List Nat} {op : Nat} {D : HD} {a0 a1 a2 a3 : Int32} {st' : St} (w : Wf h) (hf : FamS h st') (hm : ModR h f gv op D) (kd : Kd h) (hz : (O6 f gv op D (fun i j s t => nI (anw D f gv i j (sg s) (sg t))) a0 a1 a2 a3).1 = 0 → zL h 122 0 = (O6 f gv op D (fun i j s t => nI (anw D f gv i j (sg s) (sg t))) a0 a1 a2 a3).2.1.toInt64) (hq : MQ2 st' (O6 f gv op D (fun i j s t => nI (anw D f gv i j (sg s) (sg t))) a0 a1 a2 a3) Q) : Ev g mX10_answers [vR 99, vI a0, vI a1, vI a2, vI a3] h Q := by
  have hD : hdOk D := hm.2.2.2.2.2.2.2
  have hg : ∀ m, m < 12 → Wok (gv m) := fun m q => (hm.2.2.2.1 m q).1
  have hD1 := hD.2.1
  have hD5 := hD.2.2.2.2.1
  refine e_manswers hm ?_ ?_ ?_ 
  · intro i j s t hi hj hs ht e0 e1 e2 e3 h1 ms e9
    subst e0
    subst e1
    subst e2
    subst e3
    exact m_ms (st := (f, gv, _, D)) w hf hm kd hz hq (by unfold O6; rw [if_pos (ba (inb_i hi (by omega)) (inb_i hj (by omega)))]; rw [if_pos (ba (okN_n hs) (okN_n ht))]; rw [cl_n (show i < 2 ^ 31 by omega), cl_n (show j < 2 ^ 31 by omega), cb_b (show s < 2 ^ 31 by omega), cb_b (show t < 2 ^ 31 by omega)]) ms e9
  · intro e h1 ms e9
    exact m_ms (st := (f, gv, _, D)) w hf hm kd hz hq (by unfold O6; rw [if_neg (fls e)]) ms e9
  · intro e e2 h1 ms e9
    exact m_ms (st := (f, gv, _, D)) w hf hm kd hz hq (by unfold O6; rw [if_pos e]; rw [if_neg (fls e2)]) ms e9
theorem c_mainAnswer {g : Gp} {h : AH} {Q : PQ} {f : Nat → Nat} {gv : Nat → List Nat} {op : Nat} {D : HD} {a0 a1 a2 : Int32} (w : Wf h) (hf : FamR h f gv op D) (hm : ModR h f gv op D) (kd : Kd h) (hq : CQ (f, gv, op, D) (O7 f gv op D (fun i j s => m2I (mnA (fun t => anw D f gv i j s t))) a0 a1 a2) Q) : Ev g mL_mainAnswer [vR 4, vI a0, vI a1, vI a2, vR 122] h Q := by
  have hD : hdOk D := hm.2.2.2.2.2.2.2
  have hg : ∀ m, m < 12 → Wok (gv m) := fun m q => (hm.2.2.2.1 m q).1
  have hD1 := hD.2.1
  have hD5 := hD.2.2.2.2.1
  refine w_mainAnswer hf.1.1.1 (e_mainAnswer hf ?_ ?_ ?_ )
  · intro i j s hi hj hs e0 e1 e2 h1 fc fr
    subst e0
    subst e1
    subst e2
    exact c_ok (st := (f, gv, _, D)) (st' := (f, gv, op, D)) w hm kd hq (by unfold O7; rw [if_pos (ba (inb_i hi (by omega)) (inb_i hj (by omega)))]; rw [if_pos (inb_i hs (by decide))]; rw [cl_n (show i < 2 ^ 31 by omega), cl_n (show j < 2 ^ 31 by omega), cl_n (show s < 2 ^ 31 by omega)]) fc fr
  · intro e n hn
    exact c_nb (st := (f, gv, _, D)) (j := 0) w hm kd hq (by unfold O7; rw [if_neg (fls e)]; rfl) rfl (by decide) Kp.rf hf hn
  · intro e e2 n hn
    exact c_nb (st := (f, gv, _, D)) (j := 1) w hm kd hq (by unfold O7; rw [if_pos e]; rw [if_neg (fls e2)]; rfl) rfl (by decide) Kp.rf hf hn
theorem m_mainAnswer {g : Gp} {h : AH} {Q : PQ} {f : Nat → Nat} {gv : Nat → List Nat} {op : Nat} {D : HD} {a0 a1 a2 : Int32} {st' : St} (w : Wf h) (hf : FamS h st') (hm : ModR h f gv op D) (kd : Kd h) (hz : (O7 f gv op D (fun i j s => m2I (mnA (fun t => anw D f gv i j s t))) a0 a1 a2).1 = 0 → zL h 122 0 = (O7 f gv op D (fun i j s => m2I (mnA (fun t => anw D f gv i j s t))) a0 a1 a2).2.1.toInt64) (hq : MQ2 st' (O7 f gv op D (fun i j s => m2I (mnA (fun t => anw D f gv i j s t))) a0 a1 a2) Q) : Ev g mX10_mainAnswer [vR 99, vI a0, vI a1, vI a2] h Q := by
  have hD : hdOk D := hm.2.2.2.2.2.2.2
  have hg : ∀ m, m < 12 → Wok (gv m) := fun m q => (hm.2.2.2.1 m q).1
  have hD1 := hD.2.1
  have hD5 := hD.2.2.2.2.1
  refine e_mmainAnswer hm ?_ ?_ ?_ 
  · intro i j s hi hj hs e0 e1 e2 h1 ms e9
    subst e0
    subst e1
    subst e2
    exact m_ms (st := (f, gv, _, D)) w hf hm kd hz hq (by unfold O7; rw [if_pos (ba (inb_i hi (by omega)) (inb_i hj (by omega)))]; rw [if_pos (inb_i hs (by decide))]; rw [cl_n (show i < 2 ^ 31 by omega), cl_n (show j < 2 ^ 31 by omega), cl_n (show s < 2 ^ 31 by omega)]) ms e9
  · intro e h1 ms e9
    exact m_ms (st := (f, gv, _, D)) w hf hm kd hz hq (by unfold O7; rw [if_neg (fls e)]) ms e9
  · intro e e2 h1 ms e9
    exact m_ms (st := (f, gv, _, D)) w hf hm kd hz hq (by unfold O7; rw [if_pos e]; rw [if_neg (fls e2)]) ms e9
theorem c_swapped {g : Gp} {h : AH} {Q : PQ} {f : Nat → Nat} {gv : Nat → List Nat} {op : Nat} {D : HD} {x y : Int32} (w : Wf h) (hf : FamR h f gv op D) (hm : ModR h f gv op D) (kd : Kd h) (hq : CQ (f, gv, op, D) (O8 f gv op D (fun l i => nI (cdf (fun m => (cel D f gv m l).1) (fun m => (cel (setW D l (swp i (D.2.2.1 l))) f gv m l).1) 12)) x y) Q) : Ev g mL_swapped [vR 4, vI x, vI y, vR 122] h Q := by
  have hD : hdOk D := hm.2.2.2.2.2.2.2
  have hg : ∀ m, m < 12 → Wok (gv m) := fun m q => (hm.2.2.2.1 m q).1
  have hD1 := hD.2.1
  have hD5 := hD.2.2.2.2.1
  refine w_swapped hf.1.1.1 (e_swapped hf ?_ ?_ ?_ ?_ )
  · intro l i hl hi e0 e1 h1 fc fr
    subst e0
    subst e1
    exact c_ok (st := (f, gv, _, D)) (st' := (f, gv, op, D)) w hm kd hq (by have h8 := hD.2.2.2.1 l hl; unfold O8; rw [if_pos (inb_i hl (by omega))]; rw [cl_n (show l < 2 ^ 31 by omega)]; rw [if_pos (inb_i (show i < (D.2.2.1 l).length by omega) (by omega))]; rw [cl_n (show i < 2 ^ 31 by omega)]; rw [if_neg (show ¬ i + 1 = (D.2.2.1 l).length by omega)]) fc fr
  · intro e n hn
    exact c_nb (st := (f, gv, _, D)) (j := 0) w hm kd hq (by unfold O8; rw [if_neg (fls e)]; rfl) rfl (by decide) Kp.rf hf hn
  · intro l hl e0 e n hn
    subst e0
    exact c_nb (st := (f, gv, _, D)) (j := 0) w hm kd hq (by unfold O8; rw [if_pos (inb_i hl (by omega))]; rw [cl_n (show l < 2 ^ 31 by omega)]; rw [if_neg (fls e)]; rfl) rfl (by decide) Kp.rf hf hn
  · intro l hl e0 i hi e1 n hn
    subst e0
    subst e1
    exact c_nb (st := (f, gv, _, D)) (j := 1) w hm kd hq (by have h8 := hD.2.2.2.1 l hl; unfold O8; rw [if_pos (inb_i hl (by omega))]; rw [cl_n (show l < 2 ^ 31 by omega)]; rw [if_pos (inb_i (show i < (D.2.2.1 l).length by omega) (by omega))]; rw [cl_n (show i < 2 ^ 31 by omega)]; rw [if_pos hi]; rfl) rfl (by decide) Kp.rf hf hn
theorem m_swapped {g : Gp} {h : AH} {Q : PQ} {f : Nat → Nat} {gv : Nat → List Nat} {op : Nat} {D : HD} {x y : Int32} {st' : St} (w : Wf h) (hf : FamS h st') (hm : ModR h f gv op D) (kd : Kd h) (hz : (O8 f gv op D (fun l i => nI (cdf (fun m => (cel D f gv m l).1) (fun m => (cel (setW D l (swp i (D.2.2.1 l))) f gv m l).1) 12)) x y).1 = 0 → zL h 122 0 = (O8 f gv op D (fun l i => nI (cdf (fun m => (cel D f gv m l).1) (fun m => (cel (setW D l (swp i (D.2.2.1 l))) f gv m l).1) 12)) x y).2.1.toInt64) (hq : MQ2 st' (O8 f gv op D (fun l i => nI (cdf (fun m => (cel D f gv m l).1) (fun m => (cel (setW D l (swp i (D.2.2.1 l))) f gv m l).1) 12)) x y) Q) : Ev g mX10_swapped [vR 99, vI x, vI y] h Q := by
  have hD : hdOk D := hm.2.2.2.2.2.2.2
  have hg : ∀ m, m < 12 → Wok (gv m) := fun m q => (hm.2.2.2.1 m q).1
  have hD1 := hD.2.1
  have hD5 := hD.2.2.2.2.1
  refine e_mswapped hm ?_ ?_ ?_ ?_ 
  · intro l i hl hi e0 e1 h1 ms e9
    subst e0
    subst e1
    exact m_ms (st := (f, gv, _, D)) w hf hm kd hz hq (by have h8 := hD.2.2.2.1 l hl; unfold O8; rw [if_pos (inb_i hl (by omega))]; rw [cl_n (show l < 2 ^ 31 by omega)]; rw [if_pos (inb_i (show i < (D.2.2.1 l).length by omega) (by omega))]; rw [cl_n (show i < 2 ^ 31 by omega)]; rw [if_neg (show ¬ i + 1 = (D.2.2.1 l).length by omega)]) ms e9
  · intro e h1 ms e9
    exact m_ms (st := (f, gv, _, D)) w hf hm kd hz hq (by unfold O8; rw [if_neg (fls e)]) ms e9
  · intro l hl e0 e h1 ms e9
    subst e0
    exact m_ms (st := (f, gv, _, D)) w hf hm kd hz hq (by unfold O8; rw [if_pos (inb_i hl (by omega))]; rw [cl_n (show l < 2 ^ 31 by omega)]; rw [if_neg (fls e)]) ms e9
  · intro l hl e0 i hi e1 h1 ms e9
    subst e0
    subst e1
    exact m_ms (st := (f, gv, _, D)) w hf hm kd hz hq (by have h8 := hD.2.2.2.1 l hl; unfold O8; rw [if_pos (inb_i hl (by omega))]; rw [cl_n (show l < 2 ^ 31 by omega)]; rw [if_pos (inb_i (show i < (D.2.2.1 l).length by omega) (by omega))]; rw [cl_n (show i < 2 ^ 31 by omega)]; rw [if_pos hi]) ms e9
theorem c_without {g : Gp} {h : AH} {Q : PQ} {f : Nat → Nat} {gv : Nat → List Nat} {op : Nat} {D : HD} {x y : Int32} (w : Wf h) (hf : FamR h f gv op D) (hm : ModR h f gv op D) (kd : Kd h) (hq : CQ (f, gv, op, D) (O9 f gv op D (fun l i => nI (cds (fun e m => (cel D f gv m e).1) (fun e m => (cel (setW D l ((D.2.2.1 l).eraseIdx i)) f gv m e).1) D.1)) x y) Q) : Ev g mL_without [vR 4, vI x, vI y, vR 122] h Q := by
  have hD : hdOk D := hm.2.2.2.2.2.2.2
  have hg : ∀ m, m < 12 → Wok (gv m) := fun m q => (hm.2.2.2.1 m q).1
  have hD1 := hD.2.1
  have hD5 := hD.2.2.2.2.1
  refine w_without hf.1.1.1 (e_without hf ?_ ?_ ?_ )
  · intro l i hl hi e0 e1 h1 fc fr
    subst e0
    subst e1
    exact c_ok (st := (f, gv, _, D)) (st' := (f, gv, op, D)) w hm kd hq (by have h8 := hD.2.2.2.1 l hl; unfold O9; rw [if_pos (inb_i hl (by omega))]; rw [cl_n (show l < 2 ^ 31 by omega)]; rw [if_pos (inb_i hi (by omega))]; rw [cl_n (show i < 2 ^ 31 by omega)]) fc fr
  · intro e n hn
    exact c_nb (st := (f, gv, _, D)) (j := 0) w hm kd hq (by unfold O9; rw [if_neg (fls e)]; rfl) rfl (by decide) Kp.rf hf hn
  · intro l hl e0 e n hn
    subst e0
    exact c_nb (st := (f, gv, _, D)) (j := 0) w hm kd hq (by unfold O9; rw [if_pos (inb_i hl (by omega))]; rw [cl_n (show l < 2 ^ 31 by omega)]; rw [if_neg (fls e)]; rfl) rfl (by decide) Kp.rf hf hn
theorem m_without {g : Gp} {h : AH} {Q : PQ} {f : Nat → Nat} {gv : Nat → List Nat} {op : Nat} {D : HD} {x y : Int32} {st' : St} (w : Wf h) (hf : FamS h st') (hm : ModR h f gv op D) (kd : Kd h) (hz : (O9 f gv op D (fun l i => nI (cds (fun e m => (cel D f gv m e).1) (fun e m => (cel (setW D l ((D.2.2.1 l).eraseIdx i)) f gv m e).1) D.1)) x y).1 = 0 → zL h 122 0 = (O9 f gv op D (fun l i => nI (cds (fun e m => (cel D f gv m e).1) (fun e m => (cel (setW D l ((D.2.2.1 l).eraseIdx i)) f gv m e).1) D.1)) x y).2.1.toInt64) (hq : MQ2 st' (O9 f gv op D (fun l i => nI (cds (fun e m => (cel D f gv m e).1) (fun e m => (cel (setW D l ((D.2.2.1 l).eraseIdx i)) f gv m e).1) D.1)) x y) Q) : Ev g mX10_without [vR 99, vI x, vI y] h Q := by
  have hD : hdOk D := hm.2.2.2.2.2.2.2
  have hg : ∀ m, m < 12 → Wok (gv m) := fun m q => (hm.2.2.2.1 m q).1
  have hD1 := hD.2.1
  have hD5 := hD.2.2.2.2.1
  refine e_mwithout hm ?_ ?_ ?_ 
  · intro l i hl hi e0 e1 h1 ms e9
    subst e0
    subst e1
    exact m_ms (st := (f, gv, _, D)) w hf hm kd hz hq (by have h8 := hD.2.2.2.1 l hl; unfold O9; rw [if_pos (inb_i hl (by omega))]; rw [cl_n (show l < 2 ^ 31 by omega)]; rw [if_pos (inb_i hi (by omega))]; rw [cl_n (show i < 2 ^ 31 by omega)]) ms e9
  · intro e h1 ms e9
    exact m_ms (st := (f, gv, _, D)) w hf hm kd hz hq (by unfold O9; rw [if_neg (fls e)]) ms e9
  · intro l hl e0 e h1 ms e9
    subst e0
    exact m_ms (st := (f, gv, _, D)) w hf hm kd hz hq (by unfold O9; rw [if_pos (inb_i hl (by omega))]; rw [cl_n (show l < 2 ^ 31 by omega)]; rw [if_neg (fls e)]) ms e9
