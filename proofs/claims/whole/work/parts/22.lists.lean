/-! ===== ArrayList ===== -/
/-- the list at a, its row e, what it holds -/
def LsR (h : AH) (a e : Nat) (xs : List Nat) : Prop := zK h a = (1, 0) ∧ zI h a 2 = nI xs.length ∧ zR h a 1 = e ∧ ((e = 2 ∧ xs = []) ∨ ∃ cap, zK h e = (6, cap) ∧ xs.length ≤ cap ∧ (cap = 10 ∨ cap = 15) ∧ ∀ i, i < xs.length → zR h e i = xs.getD i 0)
theorem LsR.len {h : AH} {a e : Nat} {xs : List Nat} (hl : LsR h a e xs) : xs.length ≤ 15 := by
  rcases hl.2.2.2 with ⟨-, rfl⟩ | ⟨cap, -, h1, h2, -⟩
  · simp
  · omega
theorem l_size {g : Gp} {h : AH} {Q : PQ} {a e : Nat} {xs : List Nat} (hl : LsR h a e xs) (hq : Q (.inl (some (vI (nI xs.length)))) h) : Ev g mJx4a65c_size_8abf5 [vR a] h Q := by
  refine nJx4a65c_size_8abf5 ?_
  refine rJx4a65c_size_8abf5_0 ?_
  simp only [bJx4a65c_size_8abf5_0, run, Nat.reduceAdd, lg, st1, st2, lkill, lset, fvv, sfv, kind3, cat1, retI, retA, List.length_cons, List.length_nil, true_and, and_true, or_true, true_or, qJx4a65c_size_8abf5]
  rw [hl.2.1]
  exact ⟨hl.1, hq⟩
theorem l_chk3 {g : Gp} {h : AH} {Q : PQ} {i n : Nat} {b : Nat} (hi : i < n) (hn : n < 2 ^ 31) (hq : Q (.inl (some (vI (nI i)))) h) : Ev g mJ3_checkIndex_8e157 [vI (nI i), vI (nI n), vR b] h Q := by
  refine nJ3_checkIndex_8e157 ?_
  refine rJ3_checkIndex_8e157_0 ?_
  simp only [bJ3_checkIndex_8e157_0, run, Nat.reduceAdd, lg, st1, st2, lkill, lset, fvv, sfv, kind3, cat1, retI, retA, List.length_cons, List.length_nil, true_and, and_true, or_true, true_or, qJ3_checkIndex_8e157]
  refine br_f (nI_pos (by omega)) (br_t (nI_lt hi hn) ?_)
  refine rJ3_checkIndex_8e157_16 ?_
  simp only [bJ3_checkIndex_8e157_16, run, Nat.reduceAdd, lg, st1, st2, lkill, lset, fvv, sfv, kind3, cat1, retI, retA, List.length_cons, List.length_nil, true_and, and_true, or_true, true_or, qJ3_checkIndex_8e157]
  exact hq
theorem l_chk {g : Gp} {h : AH} {Q : PQ} {i n : Nat} (hi : i < n) (hn : n < 2 ^ 31) (hq : Q (.inl (some (vI (nI i)))) h) : Ev g mJ15_checkIndex_7cf53 [vI (nI i), vI (nI n)] h Q := by
  refine nJ15_checkIndex_7cf53 ?_
  refine rJ15_checkIndex_7cf53_0 ?_
  simp only [bJ15_checkIndex_7cf53_0, run, Nat.reduceAdd, lg, st1, st2, lkill, lset, fvv, sfv, kind3, cat1, retI, retA, List.length_cons, List.length_nil, true_and, and_true, or_true, true_or, qJ15_checkIndex_7cf53]
  refine sJ15_checkIndex_7cf53_3 (l_chk3 hi hn ?_)
  simp only [cont, Option.toList, List.cons_append, List.nil_append]
  refine rJ15_checkIndex_7cf53_6 ?_
  simp only [bJ15_checkIndex_7cf53_6, run, Nat.reduceAdd, lg, st1, st2, lkill, lset, fvv, sfv, kind3, cat1, retI, retA, List.length_cons, List.length_nil, true_and, and_true, or_true, true_or, qJ15_checkIndex_7cf53]
  exact hq
theorem l_isEmpty {g : Gp} {h : AH} {Q : PQ} {a e : Nat} {xs : List Nat} (hl : LsR h a e xs) (hq : Q (.inl (some (vI (if xs.length = 0 then 1 else 0)))) h) : Ev g mJx4a65c_isEmpty_aae02 [vR a] h Q := by
  refine nJx4a65c_isEmpty_aae02 ?_
  refine rJx4a65c_isEmpty_aae02_0 ?_
  simp only [bJx4a65c_isEmpty_aae02_0, run, Nat.reduceAdd, lg, st1, st2, lkill, lset, fvv, sfv, kind3, cat1, retI, retA, List.length_cons, List.length_nil, true_and, and_true, or_true, true_or, qJx4a65c_isEmpty_aae02]
  rw [hl.2.1]
  have hn := hl.len
  refine ⟨hl.1, fun h0 => ?_, fun h0 => ?_⟩
  · refine rJx4a65c_isEmpty_aae02_11 ?_
    simp only [bJx4a65c_isEmpty_aae02_11, run, Nat.reduceAdd, lg, st1, st2, lkill, lset, fvv, sfv, kind3, cat1, retI, retA, List.length_cons, List.length_nil, true_and, and_true, or_true, true_or, qJx4a65c_isEmpty_aae02]
    rw [if_neg (fun e => h0 (by rw [e]; rfl))] at hq
    exact hq
  · rw [if_pos ((nI_eq (b := 0) (by omega) (by omega)).mp h0)] at hq
    exact hq
theorem l_elData {g : Gp} {h : AH} {Q : PQ} {a e i : Nat} {xs : List Nat} (hl : LsR h a e xs) (hi : i < xs.length) (hq : Q (.inl (some (vR (xs.getD i 0)))) h) : Ev g mJx4a65c_elementData_915e3 [vR a, vI (nI i)] h Q := by
  refine nJx4a65c_elementData_915e3 ?_
  refine rJx4a65c_elementData_915e3_0 ?_
  simp only [bJx4a65c_elementData_915e3_0, run, Nat.reduceAdd, lg, st1, st2, lkill, lset, fvv, sfv, kind3, cat1, retI, retA, List.length_cons, List.length_nil, true_and, and_true, or_true, true_or, qJx4a65c_elementData_915e3]
  obtain ⟨h1, h2, h3, h4⟩ := hl
  rcases h4 with ⟨-, rfl⟩ | ⟨cap, k1, k2, k3, k5⟩
  · simp at hi
  rw [h3, k1, nI_clamp (by omega), k5 i hi]
  exact ⟨h1, Or.inl rfl, vp_in_nI (by omega) (by omega), hq⟩
theorem l_get {g : Gp} {h : AH} {Q : PQ} {a e i : Nat} {xs : List Nat} (hl : LsR h a e xs) (hi : i < xs.length) (hq : Q (.inl (some (vR (xs.getD i 0)))) h) : Ev g mJx4a65c_get_915e3 [vR a, vI (nI i)] h Q := by
  have hn := hl.len
  refine nJx4a65c_get_915e3 ?_
  refine rJx4a65c_get_915e3_0 ?_
  simp only [bJx4a65c_get_915e3_0, run, Nat.reduceAdd, lg, st1, st2, lkill, lset, fvv, sfv, kind3, cat1, retI, retA, List.length_cons, List.length_nil, true_and, and_true, or_true, true_or, qJx4a65c_get_915e3]
  rw [hl.2.1]
  refine ⟨hl.1, ?_⟩
  refine sJx4a65c_get_915e3_5 (l_chk hi (by omega) ?_)
  simp only [cont, Option.toList, List.cons_append, List.nil_append]
  refine rJx4a65c_get_915e3_8 ?_
  simp only [bJx4a65c_get_915e3_8, run, Nat.reduceAdd, lg, st1, st2, lkill, lset, fvv, sfv, kind3, cat1, retI, retA, List.length_cons, List.length_nil, true_and, and_true, or_true, true_or, qJx4a65c_get_915e3]
  refine sJx4a65c_get_915e3_11 hl.1 (l_elData hl hi ?_)
  simp only [cont, Option.toList, List.cons_append, List.nil_append]
  refine rJx4a65c_get_915e3_14 ?_
  simp only [bJx4a65c_get_915e3_14, run, Nat.reduceAdd, lg, st1, st2, lkill, lset, fvv, sfv, kind3, cat1, retI, retA, List.length_cons, List.length_nil, true_and, and_true, or_true, true_or, qJx4a65c_get_915e3]
  exact hq
theorem l_newLen {g : Gp} {h : AH} {Q : PQ} (hq : Q (.inl (some (vI 15))) h) : Ev g mJ8_newLength_cabcc [vI 10, vI 1, vI 5] h Q := by
  refine nJ8_newLength_cabcc ?_
  refine rJ8_newLength_cabcc_0 ?_
  simp only [bJ8_newLength_cabcc_0, run, Nat.reduceAdd, lg, st1, st2, lkill, lset, fvv, sfv, kind3, cat1, retI, retA, List.length_cons, List.length_nil, true_and, and_true, or_true, true_or, qJ8_newLength_cabcc]
  refine sJ8_newLength_cabcc_3 ?_
  refine rJ8_newLength_cabcc_6 ?_
  simp only [bJ8_newLength_cabcc_6, run, Nat.reduceAdd, lg, st1, st2, lkill, lset, fvv, sfv, kind3, cat1, retI, retA, List.length_cons, List.length_nil, true_and, and_true, or_true, true_or, qJ8_newLength_cabcc]
  refine br_f (by decide) (br_f (by decide) ?_)
  exact hq
theorem l_copy3 {g : Gp} {h : AH} {Q : PQ} {e ci : Nat} {r : vw_C} (he : zK h e = (6, 10)) (hc : clt[ci]? = some r) (hcast : Cond.castable r.1 "java/lang/Object" ∈ lw_n) (hel : ∀ i, i < 10 → zK h (zR h e i) = (1, ci)) (hq : Q (.inl (some (vR (zN h)))) (rwR (nw h (6, 15)) (zN h) (fun j => if j < 10 then zR h e j else 0))) : Ev g mJ7_copyOf_6403c [vR e, vI 15, vR 3] h Q := by
  refine nJ7_copyOf_6403c ?_
  refine Ex.wf (fun w => ?_)
  have hne : e ≠ zN h := Nat.ne_of_lt (w.lt he (by decide))
  have hk1 : zK (nw h (6, 15)) e = (6, 10) := (up1_n _ _ hne).trans he
  have hk2 : zK (nw h (6, 15)) (zN h) = (6, 15) := zK_nw
  have hr1 : zR (nw h (6, 15)) e = zR h e := up1_n _ _ hne
  have hr2 : zR (nw h (6, 15)) (zN h) = fun _ => 0 := up1_s _ _ _
  refine rJ7_copyOf_6403c_0 ?_
  simp only [bJ7_copyOf_6403c_0, run, Nat.reduceAdd, lg, st1, st2, lkill, lset, fvv, sfv, kind3, cat1, retI, retA, List.length_cons, List.length_nil, true_and, and_true, or_true, true_or, qJ7_copyOf_6403c]
  refine x_ldcM (i := 110) (lg_mem (by decide +kernel) rfl) (by decide +kernel) ?_
  refine x_acmp_ne_same (t := 13) (off := 10) (by decide) (by decide +kernel) ?_
  refine rJ7_copyOf_6403c_6 ?_
  simp only [bJ7_copyOf_6403c_6, run, Nat.reduceAdd, lg, st1, st2, lkill, lset, fvv, sfv, kind3, cat1, retI, retA, List.length_cons, List.length_nil, true_and, and_true, or_true, true_or, qJ7_copyOf_6403c]
  refine x_anewarray (t := 6) (N := 15) (i := 2) (Or.inl rfl) (lg_mem (by decide +kernel) rfl) (ln_mem (by decide +kernel) rfl) (by decide) (by decide) (by decide) (by decide) (by decide) (by decide +kernel) ?_
  refine rJ7_copyOf_6403c_10 ?_
  simp only [bJ7_copyOf_6403c_10, run, Nat.reduceAdd, lg, st1, st2, lkill, lset, fvv, sfv, kind3, cat1, retI, retA, List.length_cons, List.length_nil, true_and, and_true, or_true, true_or, qJ7_copyOf_6403c]
  rw [hk1]
  refine ⟨by decide, ?_⟩
  refine sJ7_copyOf_6403c_32 ?_
  refine x_copyq (i := 150) (ci := ci) (r := r) (sp := 0) (dp := 0) (n := if (15 : Int32) < nI 10 then 15 else nI 10) (n0 := 10) (n1 := 15) ⟨lg_mem (by decide +kernel) rfl, lg_mem (by decide +kernel) rfl, lg_mem (by decide +kernel) rfl, lg_mem (by decide +kernel) rfl⟩ hk1 hk2 hc hcast (by decide) (by decide) (by decide) (by decide) (by decide) ?_ (by decide) (by decide) (by decide +kernel) ?_
  · intro j hj _
    have hj2 : j < 10 := hj
    have hz : (0 : Int32).toNatClampNeg = 0 := by decide
    rw [hr1, hz, Nat.zero_add]
    have hk3 := hel j hj2
    exact (up1_n _ _ (Nat.ne_of_lt (w.lt hk3 (by decide)))).trans hk3
  refine rJ7_copyOf_6403c_38 ?_
  simp only [bJ7_copyOf_6403c_38, run, Nat.reduceAdd, lg, st1, st2, lkill, lset, fvv, sfv, kind3, cat1, retI, retA, List.length_cons, List.length_nil, true_and, and_true, or_true, true_or, qJ7_copyOf_6403c]
  have ef : va_cpy (zR (nw h (6, 15)) e) (zR (nw h (6, 15)) (zN h)) (0 : Int32).toNatClampNeg (0 : Int32).toNatClampNeg (if (15 : Int32) < nI 10 then 15 else nI 10).toNatClampNeg = fun j => if j < 10 then zR h e j else 0 := by
    rw [hr1, hr2, show (0 : Int32).toNatClampNeg = 0 by decide, show (if (15 : Int32) < nI 10 then 15 else nI 10).toNatClampNeg = 10 by decide]
    funext j
    simp [va_cpy]
  rw [ef]
  exact hq
theorem l_copy2 {g : Gp} {h : AH} {Q : PQ} {e ci : Nat} {r : vw_C} (he : zK h e = (6, 10)) (hc : clt[ci]? = some r) (hcast : Cond.castable r.1 "java/lang/Object" ∈ lw_n) (hel : ∀ i, i < 10 → zK h (zR h e i) = (1, ci)) (hq : Q (.inl (some (vR (zN h)))) (rwR (nw h (6, 15)) (zN h) (fun j => if j < 10 then zR h e j else 0))) : Ev g mJ7_copyOf_1904c [vR e, vI 15] h Q := by
  refine nJ7_copyOf_1904c ?_
  refine rJ7_copyOf_1904c_0 ?_
  simp only [bJ7_copyOf_1904c_0, run, Nat.reduceAdd, lg, st1, st2, lkill, lset, fvv, sfv, kind3, cat1, retI, retA, List.length_cons, List.length_nil, true_and, and_true, or_true, true_or, qJ7_copyOf_1904c]
  refine x_getC (i := 86) (lg_mem (by decide +kernel) rfl) (ln_mem (by decide +kernel) rfl) (lg_mem (by decide +kernel) rfl) (lg_mem (by decide +kernel) rfl) (lg_mem (by decide +kernel) rfl) he (by decide) (Nat.le_of_ble_eq_true rfl) (by decide +kernel) ?_
  refine sJ7_copyOf_1904c_6 (by decide) (l_copy3 he hc hcast hel ?_)
  simp only [cont, Option.toList, List.cons_append, List.nil_append]
  refine rJ7_copyOf_1904c_9 ?_
  simp only [bJ7_copyOf_1904c_9, run, Nat.reduceAdd, lg, st1, st2, lkill, lset, fvv, sfv, kind3, cat1, retI, retA, List.length_cons, List.length_nil, true_and, and_true, or_true, true_or, qJ7_copyOf_1904c]
  exact hq
/-- the row is full: a new one -/
def GrP (h : AH) (a : Nat) (xs : List Nat) (h' : AH) : Prop := zN h' = zN h + 1 ∧ Kp (fun b => b = a) h h' ∧ zI h' a = zI h a ∧ zR h' a 1 = zN h ∧ ∃ cap, (cap = 10 ∨ cap = 15) ∧ xs.length < cap ∧ zK h' (zN h) = (6, cap) ∧ ∀ i, i < xs.length → zR h' (zN h) i = xs.getD i 0
def FullL (h : AH) (e ci : Nat) (xs : List Nat) : Prop := (e = 2 ∧ xs = []) ∨ (zK h e = (6, 10) ∧ xs.length = 10 ∧ (∀ i, i < 10 → zR h e i = xs.getD i 0) ∧ ∀ i, i < 10 → zK h (xs.getD i 0) = (1, ci))
theorem l_growI {g : Gp} {h : AH} {Q : PQ} {a e ci : Nat} {r : vw_C} {xs : List Nat} (ha : zK h a = (1, 0)) (hr : zR h a 1 = e) (hf : FullL h e ci xs) (hc : clt[ci]? = some r) (hcast : Cond.castable r.1 "java/lang/Object" ∈ lw_n) (hq : ∀ h', GrP h a xs h' → Q (.inl (some (vR (zN h)))) h') : Ev g mJx4a65c_grow_92f84 [vR a, vI (nI xs.length + 1)] h Q := by
  refine nJx4a65c_grow_92f84 ?_
  refine Ex.wf (fun w => ?_)
  have hna : a ≠ zN h := Nat.ne_of_lt (w.lt ha (by decide))
  refine rJx4a65c_grow_92f84_0 ?_
  simp only [bJx4a65c_grow_92f84_0, run, Nat.reduceAdd, lg, st1, st2, lkill, lset, fvv, sfv, kind3, cat1, retI, retA, List.length_cons, List.length_nil, true_and, and_true, or_true, true_or, qJx4a65c_grow_92f84]
  rw [hr]
  rcases hf with ⟨rfl, rfl⟩ | ⟨k1, k2, k3, k4⟩
  · rw [show alen h 2 = 0 from if_pos rfl]
    refine ⟨ha, Or.inl rfl, br_f (by decide) ⟨ha, ?_⟩⟩
    refine x_gets (i := 39) (lg_mem (by decide +kernel) rfl) (by decide +kernel) ?_
    refine x_acmp_eq (t := 45) (off := 28) (by decide) (by decide) (by decide) (by decide +kernel) (fun _ => ?_) (fun hn => absurd rfl hn)
    refine rJx4a65c_grow_92f84_45 ?_
    simp only [bJx4a65c_grow_92f84_45, run, Nat.reduceAdd, lg, st1, st2, lkill, lset, fvv, sfv, kind3, cat1, retI, retA, List.length_cons, List.length_nil, true_and, and_true, or_true, true_or, qJx4a65c_grow_92f84]
    refine sJx4a65c_grow_92f84_49 ?_
    refine x_anewarray (t := 6) (N := 10) (i := 7) (Or.inl rfl) (lg_mem (by decide +kernel) rfl) (ln_mem (by decide +kernel) rfl) (by decide) (by decide) (by decide) (by decide) (by decide) (by decide +kernel) ?_
    refine rJx4a65c_grow_92f84_55 ?_
    simp only [bJx4a65c_grow_92f84_55, run, Nat.reduceAdd, lg, st1, st2, lkill, lset, fvv, sfv, kind3, cat1, retI, retA, List.length_cons, List.length_nil, true_and, and_true, or_true, true_or, qJx4a65c_grow_92f84]
    refine ⟨(up1_n _ _ hna).trans ha, hq _ ⟨rfl, Kp.nw.tr2 (Kp.sR (S := fun b => b = a) rfl) (fun _ _ h => h), up1_n _ _ hna, ?_, 10, Or.inl rfl, by decide, ?_, fun i hi => absurd hi (by simp)⟩⟩
    · rw [zR_sR]; exact up1_s _ _ _
    · exact zK_nw
  · have e2 : alen h e = nI 10 := by unfold alen; rw [if_neg (fun q => by subst q; have := w.2 2 (Or.inl (by decide)); rw [k1] at this; exact absurd this (by decide)), k1]
    rw [e2, k1, k2]
    refine ⟨ha, Or.inr (by decide), br_t (by decide) ?_⟩
    refine rJx4a65c_grow_92f84_20 ?_
    simp only [bJx4a65c_grow_92f84_20, run, Nat.reduceAdd, lg, st1, st2, lkill, lset, fvv, sfv, kind3, cat1, retI, retA, List.length_cons, List.length_nil, true_and, and_true, or_true, true_or, qJx4a65c_grow_92f84]
    rw [show nI 10 + 1 - nI 10 = 1 by decide, show nI 10 >>> ((1 : Int32) &&& 31) = 5 by decide, show nI 10 = 10 by decide]
    refine sJx4a65c_grow_92f84_27 (l_newLen ?_)
    simp only [cont, Option.toList, List.cons_append, List.nil_append]
    refine rJx4a65c_grow_92f84_30 ?_
    simp only [bJx4a65c_grow_92f84_30, run, Nat.reduceAdd, lg, st1, st2, lkill, lset, fvv, sfv, kind3, cat1, retI, retA, List.length_cons, List.length_nil, true_and, and_true, or_true, true_or, qJx4a65c_grow_92f84]
    rw [hr]
    refine ⟨ha, ?_⟩
    refine sJx4a65c_grow_92f84_37 (by decide) (l_copy2 k1 hc hcast (fun i hi => by rw [k3 i hi]; exact k4 i hi) ?_)
    simp only [cont, Option.toList, List.cons_append, List.nil_append]
    refine rJx4a65c_grow_92f84_40 ?_
    simp only [bJx4a65c_grow_92f84_40, run, Nat.reduceAdd, lg, st1, st2, lkill, lset, fvv, sfv, kind3, cat1, retI, retA, List.length_cons, List.length_nil, true_and, and_true, or_true, true_or, qJx4a65c_grow_92f84]
    refine ⟨(up1_n _ _ hna).trans ha, hq _ ⟨rfl, ?_, up1_n _ _ hna, ?_, 15, Or.inr rfl, by omega, ?_, fun i hi => ?_⟩⟩
    · refine (Kp.nw (S := fun b => b = a) (h := h) (kd := (6, 15))).tr2 ((Kp.rwR (S := fun b => b = a ∨ b = zN h) (Or.inr rfl)).tr (Kp.sR (Or.inl rfl))) (fun b hb hs => ?_)
      rcases hs with e3 | e3
      · exact e3
      · exact absurd e3 (Nat.ne_of_lt hb)
    · rw [zR_sR]; exact up1_s _ _ _
    · exact zK_nw
    · have : zR (sR (rwR (nw h (6, 15)) (zN h) (fun j => if j < 10 then zR h e j else 0)) a 1 (zN h)) (zN h) = fun j => if j < 10 then zR h e j else 0 := (up1_n _ _ (Ne.symm hna)).trans (up1_s _ _ _)
      rw [this]
      simp only [show i < 10 by omega, if_true]
      exact k3 i (by omega)
