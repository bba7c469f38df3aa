/-! ===== ArrayList ===== -/
/-- the list at a, its row e, what it holds -/
def LsR (h : AH) (a e : Nat) (xs : List Nat) : Prop := zK h a = (1, 0) ∧ zI h a 2 = nI xs.length ∧ zR h a 1 = e ∧ ((e = 2 ∧ xs = []) ∨ ∃ cap, zK h e = (6, cap) ∧ xs.length ≤ cap ∧ (cap = 10 ∨ cap = 15) ∧ ∀ i, i < xs.length → zR h e i = xs.getD i 0)
theorem LsR.len {h : AH} {a e : Nat} {xs : List Nat} (hl : LsR h a e xs) : xs.length ≤ 15 := by
  rcases hl.2.2.2 with ⟨-, rfl⟩ | ⟨cap, -, h1, h2, -⟩
  · simp
  · omega
theorem l_size {g : Gp} {h : AH} {Q : PQ} {a e : Nat} {xs : List Nat} (hl : LsR h a e xs) (hq : Q (.inl (some (vI (nI xs.length)))) h) : Ev g mJx4a65c_size_8abf5 [vR a] h Q := by
  refine nJx4a65c_size_8abf5 ?_
  refine rJx4a65c_size_8abf5_0 ?_
  simp only [bJx4a65c_size_8abf5_0, run, Nat.reduceAdd, lg, st1, st2, lkill, lset, fvv, sfv, kind3, cat1, retI, retA, List.length_cons, List.length_nil, true_and, and_true, or_true, true_or, qJx4a65c_size_8abf5]
  rw [hl.2.1]
  exact ⟨hl.1, hq⟩
theorem l_chk3 {g : Gp} {h : AH} {Q : PQ} {i n : Nat} {b : Nat} (hi : i < n) (hn : n < 2 ^ 31) (hq : Q (.inl (some (vI (nI i)))) h) : Ev g mJ3_checkIndex_8e157 [vI (nI i), vI (nI n), vR b] h Q := by
  refine nJ3_checkIndex_8e157 ?_
  refine rJ3_checkIndex_8e157_0 ?_
  simp only [bJ3_checkIndex_8e157_0, run, Nat.reduceAdd, lg, st1, st2, lkill, lset, fvv, sfv, kind3, cat1, retI, retA, List.length_cons, List.length_nil, true_and, and_true, or_true, true_or, qJ3_checkIndex_8e157]
  refine br_f (nI_pos (by omega)) (br_t (nI_lt hi hn) ?_)
  refine rJ3_checkIndex_8e157_16 ?_
  simp only [bJ3_checkIndex_8e157_16, run, Nat.reduceAdd, lg, st1, st2, lkill, lset, fvv, sfv, kind3, cat1, retI, retA, List.length_cons, List.length_nil, true_and, and_true, or_true, true_or, qJ3_checkIndex_8e157]
  exact hq
theorem l_chk {g : Gp} {h : AH} {Q : PQ} {i n : Nat} (hi : i < n) (hn : n < 2 ^ 31) (hq : Q (.inl (some (vI (nI i)))) h) : Ev g mJ15_checkIndex_7cf53 [vI (nI i), vI (nI n)] h Q := by
  refine nJ15_checkIndex_7cf53 ?_
  refine rJ15_checkIndex_7cf53_0 ?_
  simp only [bJ15_checkIndex_7cf53_0, run, Nat.reduceAdd, lg, st1, st2, lkill, lset, fvv, sfv, kind3, cat1, retI, retA, List.length_cons, List.length_nil, true_and, and_true, or_true, true_or, qJ15_checkIndex_7cf53]
  refine sJ15_checkIndex_7cf53_3 (l_chk3 hi hn ?_)
  simp only [cont, Option.toList, List.cons_append, List.nil_append]
  refine rJ15_checkIndex_7cf53_6 ?_
  simp only [bJ15_checkIndex_7cf53_6, run, Nat.reduceAdd, lg, st1, st2, lkill, lset, fvv, sfv, kind3, cat1, retI, retA, List.length_cons, List.length_nil, true_and, and_true, or_true, true_or, qJ15_checkIndex_7cf53]
  exact hq
theorem l_isEmpty {g : Gp} {h : AH} {Q : PQ} {a e : Nat} {xs : List Nat} (hl : LsR h a e xs) (hq : Q (.inl (some (vI (if xs.length = 0 then 1 else 0)))) h) : Ev g mJx4a65c_isEmpty_aae02 [vR a] h Q := by
  refine nJx4a65c_isEmpty_aae02 ?_
  refine rJx4a65c_isEmpty_aae02_0 ?_
  simp only [bJx4a65c_isEmpty_aae02_0, run, Nat.reduceAdd, lg, st1, st2, lkill, lset, fvv, sfv, kind3, cat1, retI, retA, List.length_cons, List.length_nil, true_and, and_true, or_true, true_or, qJx4a65c_isEmpty_aae02]
  rw [hl.2.1]
  have hn := hl.len
  refine ⟨hl.1, fun h0 => ?_, fun h0 => ?_⟩
  · refine rJx4a65c_isEmpty_aae02_11 ?_
    simp only [bJx4a65c_isEmpty_aae02_11, run, Nat.reduceAdd, lg, st1, st2, lkill, lset, fvv, sfv, kind3, cat1, retI, retA, List.length_cons, List.length_nil, true_and, and_true, or_true, true_or, qJx4a65c_isEmpty_aae02]
    rw [if_neg (fun e => h0 (by rw [e]; rfl))] at hq
    exact hq
  · rw [if_pos ((nI_eq (b := 0) (by omega) (by omega)).mp h0)] at hq
    exact hq
theorem l_elData {g : Gp} {h : AH} {Q : PQ} {a e i : Nat} {xs : List Nat} (hl : LsR h a e xs) (hi : i < xs.length) (hq : Q (.inl (some (vR (xs.getD i 0)))) h) : Ev g mJx4a65c_elementData_915e3 [vR a, vI (nI i)] h Q := by
  refine nJx4a65c_elementData_915e3 ?_
  refine rJx4a65c_elementData_915e3_0 ?_
  simp only [bJx4a65c_elementData_915e3_0, run, Nat.reduceAdd, lg, st1, st2, lkill, lset, fvv, sfv, kind3, cat1, retI, retA, List.length_cons, List.length_nil, true_and, and_true, or_true, true_or, qJx4a65c_elementData_915e3]
  obtain ⟨h1, h2, h3, h4⟩ := hl
  rcases h4 with ⟨-, rfl⟩ | ⟨cap, k1, k2, k3, k5⟩
  · simp at hi
  rw [h3, k1, nI_clamp (by omega), k5 i hi]
  exact ⟨h1, Or.inl rfl, vp_in_nI (by omega) (by omega), hq⟩
theorem l_get {g : Gp} {h : AH} {Q : PQ} {a e i : Nat} {xs : List Nat} (hl : LsR h a e xs) (hi : i < xs.length) (hq : Q (.inl (some (vR (xs.getD i 0)))) h) : Ev g mJx4a65c_get_915e3 [vR a, vI (nI i)] h Q := by
  have hn := hl.len
  refine nJx4a65c_get_915e3 ?_
  refine rJx4a65c_get_915e3_0 ?_
  simp only [bJx4a65c_get_915e3_0, run, Nat.reduceAdd, lg, st1, st2, lkill, lset, fvv, sfv, kind3, cat1, retI, retA, List.length_cons, List.length_nil, true_and, and_true, or_true, true_or, qJx4a65c_get_915e3]
  rw [hl.2.1]
  refine ⟨hl.1, ?_⟩
  refine sJx4a65c_get_915e3_5 (l_chk hi (by omega) ?_)
  simp only [cont, Option.toList, List.cons_append, List.nil_append]
  refine rJx4a65c_get_915e3_8 ?_
  simp only [bJx4a65c_get_915e3_8, run, Nat.reduceAdd, lg, st1, st2, lkill, lset, fvv, sfv, kind3, cat1, retI, retA, List.length_cons, List.length_nil, true_and, and_true, or_true, true_or, qJx4a65c_get_915e3]
  refine sJx4a65c_get_915e3_11 hl.1 (l_elData hl hi ?_)
  simp only [cont, Option.toList, List.cons_append, List.nil_append]
  refine rJx4a65c_get_915e3_14 ?_
  simp only [bJx4a65c_get_915e3_14, run, Nat.reduceAdd, lg, st1, st2, lkill, lset, fvv, sfv, kind3, cat1, retI, retA, List.length_cons, List.length_nil, true_and, and_true, or_true, true_or, qJx4a65c_get_915e3]
  exact hq
theorem l_newLen {g : Gp} {h : AH} {Q : PQ} (hq : Q (.inl (some (vI 15))) h) : Ev g mJ8_newLength_cabcc [vI 10, vI 1, vI 5] h Q := by
  refine nJ8_newLength_cabcc ?_
  refine rJ8_newLength_cabcc_0 ?_
  simp only [bJ8_newLength_cabcc_0, run, Nat.reduceAdd, lg, st1, st2, lkill, lset, fvv, sfv, kind3, cat1, retI, retA, List.length_cons, List.length_nil, true_and, and_true, or_true, true_or, qJ8_newLength_cabcc]
  refine sJ8_newLength_cabcc_3 ?_
  refine rJ8_newLength_cabcc_6 ?_
  simp only [bJ8_newLength_cabcc_6, run, Nat.reduceAdd, lg, st1, st2, lkill, lset, fvv, sfv, kind3, cat1, retI, retA, List.length_cons, List.length_nil, true_and, and_true, or_true, true_or, qJ8_newLength_cabcc]
  refine br_f (by decide) (br_f (by decide) ?_)
  exact hq
theorem l_copy3 {g : Gp} {h : AH} {Q : PQ} {e ci : Nat} {r : vw_C} (he : zK h e = (6, 10)) (hc : clt[ci]? = some r) (hcast : Cond.castable r.1 "java/lang/Object" ∈ lw_n) (hel : ∀ i, i < 10 → zK h (zR h e i) = (1, ci)) (hq : Q (.inl (some (vR (zN h)))) (rwR (nw h (6, 15)) (zN h) (fun j => if j < 10 then zR h e j else 0))) : Ev g mJ7_copyOf_6403c [vR e, vI 15, vR 3] h Q := by
  refine nJ7_copyOf_6403c ?_
  refine Ex.wf (fun w => ?_)
  have hne : e ≠ zN h := Nat.ne_of_lt (w.lt he (by decide))
  have hk1 : zK (nw h (6, 15)) e = (6, 10) := (up1_n _ _ hne).trans he
  have hk2 : zK (nw h (6, 15)) (zN h) = (6, 15) := zK_nw
  have hr1 : zR (nw h (6, 15)) e = zR h e := up1_n _ _ hne
  have hr2 : zR (nw h (6, 15)) (zN h) = fun _ => 0 := up1_s _ _ _
  refine rJ7_copyOf_6403c_0 ?_
  simp only [bJ7_copyOf_6403c_0, run, Nat.reduceAdd, lg, st1, st2, lkill, lset, fvv, sfv, kind3, cat1, retI, retA, List.length_cons, List.length_nil, true_and, and_true, or_true, true_or, qJ7_copyOf_6403c]
  refine x_ldcM (i := 110) (lg_mem (by decide +kernel) rfl) (by decide +kernel) ?_
  refine x_acmp_ne_same (t := 13) (off := 10) (by decide) (by decide +kernel) ?_
  refine rJ7_copyOf_6403c_6 ?_
  simp only [bJ7_copyOf_6403c_6, run, Nat.reduceAdd, lg, st1, st2, lkill, lset, fvv, sfv, kind3, cat1, retI, retA, List.length_cons, List.length_nil, true_and, and_true, or_true, true_or, qJ7_copyOf_6403c]
  refine x_anewarray (t := 6) (N := 15) (i := 2) (Or.inl rfl) (lg_mem (by decide +kernel) rfl) (ln_mem (by decide +kernel) rfl) (by decide) (by decide) (by decide) (by decide) (by decide) (by decide +kernel) ?_
  refine rJ7_copyOf_6403c_10 ?_
  simp only [bJ7_copyOf_6403c_10, run, Nat.reduceAdd, lg, st1, st2, lkill, lset, fvv, sfv, kind3, cat1, retI, retA, List.length_cons, List.length_nil, true_and, and_true, or_true, true_or, qJ7_copyOf_6403c]
  rw [hk1]
  refine ⟨by decide, ?_⟩
  refine sJ7_copyOf_6403c_32 ?_
  refine x_copyq (i := 150) (ci := ci) (r := r) (sp := 0) (dp := 0) (n := if (15 : Int32) < nI 10 then 15 else nI 10) (n0 := 10) (n1 := 15) ⟨lg_mem (by decide +kernel) rfl, lg_mem (by decide +kernel) rfl, lg_mem (by decide +kernel) rfl, lg_mem (by decide +kernel) rfl⟩ hk1 hk2 hc hcast (by decide) (by decide) (by decide) (by decide) (by decide) ?_ (by decide) (by decide) (by decide +kernel) ?_
  · intro j hj _
    have hj2 : j < 10 := hj
    have hz : (0 : Int32).toNatClampNeg = 0 := by decide
    rw [hr1, hz, Nat.zero_add]
    have hk3 := hel j hj2
    exact (up1_n _ _ (Nat.ne_of_lt (w.lt hk3 (by decide)))).trans hk3
  refine rJ7_copyOf_6403c_38 ?_
  simp only [bJ7_copyOf_6403c_38, run, Nat.reduceAdd, lg, st1, st2, lkill, lset, fvv, sfv, kind3, cat1, retI, retA, List.length_cons, List.length_nil, true_and, and_true, or_true, true_or, qJ7_copyOf_6403c]
  have ef : va_cpy (zR (nw h (6, 15)) e) (zR (nw h (6, 15)) (zN h)) (0 : Int32).toNatClampNeg (0 : Int32).toNatClampNeg (if (15 : Int32) < nI 10 then 15 else nI 10).toNatClampNeg = fun j => if j < 10 then zR h e j else 0 := by
    rw [hr1, hr2, show (0 : Int32).toNatClampNeg = 0 by decide, show (if (15 : Int32) < nI 10 then 15 else nI 10).toNatClampNeg = 10 by decide]
    funext j
    simp [va_cpy]
  rw [ef]
  exact hq
theorem l_copy2 {g : Gp} {h : AH} {Q : PQ} {e ci : Nat} {r : vw_C} (he : zK h e = (6, 10)) (hc : clt[ci]? = some r) (hcast : Cond.castable r.1 "java/lang/Object" ∈ lw_n) (hel : ∀ i, i < 10 → zK h (zR h e i) = (1, ci)) (hq : Q (.inl (some (vR (zN h)))) (rwR (nw h (6, 15)) (zN h) (fun j => if j < 10 then zR h e j else 0))) : Ev g mJ7_copyOf_1904c [vR e, vI 15] h Q := by
  refine nJ7_copyOf_1904c ?_
  refine rJ7_copyOf_1904c_0 ?_
  simp only [bJ7_copyOf_1904c_0, run, Nat.reduceAdd, lg, st1, st2, lkill, lset, fvv, sfv, kind3, cat1, retI, retA, List.length_cons, List.length_nil, true_and, and_true, or_true, true_or, qJ7_copyOf_1904c]
  refine x_getC (i := 86) (lg_mem (by decide +kernel) rfl) (ln_mem (by decide +kernel) rfl) (lg_mem (by decide +kernel) rfl) (lg_mem (by decide +kernel) rfl) (lg_mem (by decide +kernel) rfl) he (by decide) (Nat.le_of_ble_eq_true rfl) (by decide +kernel) ?_
  refine sJ7_copyOf_1904c_6 (by decide) (l_copy3 he hc hcast hel ?_)
  simp only [cont, Option.toList, List.cons_append, List.nil_append]
  refine rJ7_copyOf_1904c_9 ?_
  simp only [bJ7_copyOf_1904c_9, run, Nat.reduceAdd, lg, st1, st2, lkill, lset, fvv, sfv, kind3, cat1, retI, retA, List.length_cons, List.length_nil, true_and, and_true, or_true, true_or, qJ7_copyOf_1904c]
  exact hq
/-- the row is full: a new one -/
def GrP (h : AH) (a : Nat) (xs : List Nat) (h' : AH) : Prop := zN h' = zN h + 1 ∧ Kp (fun b => b = a) h h' ∧ zI h' a = zI h a ∧ zR h' a 1 = zN h ∧ ∃ cap, (cap = 10 ∨ cap = 15) ∧ xs.length < cap ∧ zK h' (zN h) = (6, cap) ∧ ∀ i, i < xs.length → zR h' (zN h) i = xs.getD i 0
def FullL (h : AH) (e ci : Nat) (xs : List Nat) : Prop := (e = 2 ∧ xs = []) ∨ (zK h e = (6, 10) ∧ xs.length = 10 ∧ (∀ i, i < 10 → zR h e i = xs.getD i 0) ∧ ∀ i, i < 10 → zK h (xs.getD i 0) = (1, ci))
theorem l_growI {g : Gp} {h : AH} {Q : PQ} {a e ci : Nat} {r : vw_C} {xs : List Nat} (ha : zK h a = (1, 0)) (hr : zR h a 1 = e) (hf : FullL h e ci xs) (hc : clt[ci]? = some r) (hcast : Cond.castable r.1 "java/lang/Object" ∈ lw_n) (hq : ∀ h', GrP h a xs h' → Q (.inl (some (vR (zN h)))) h') : Ev g mJx4a65c_grow_92f84 [vR a, vI (nI xs.length + 1)] h Q := by
  refine nJx4a65c_grow_92f84 ?_
  refine Ex.wf (fun w => ?_)
  have hna : a ≠ zN h := Nat.ne_of_lt (w.lt ha (by decide))
  refine rJx4a65c_grow_92f84_0 ?_
  simp only [bJx4a65c_grow_92f84_0, run, Nat.reduceAdd, lg, st1, st2, lkill, lset, fvv, sfv, kind3, cat1, retI, retA, List.length_cons, List.length_nil, true_and, and_true, or_true, true_or, qJx4a65c_grow_92f84]
  rw [hr]
  rcases hf with ⟨rfl, rfl⟩ | ⟨k1, k2, k3, k4⟩
  · rw [show alen h 2 = 0 from if_pos rfl]
    refine ⟨ha, Or.inl rfl, br_f (by decide) ⟨ha, ?_⟩⟩
    refine x_gets (i := 39) (lg_mem (by decide +kernel) rfl) (by decide +kernel) ?_
    refine x_acmp_eq (t := 45) (off := 28) (by decide) (by decide) (by decide) (by decide +kernel) (fun _ => ?_) (fun hn => absurd rfl hn)
    refine rJx4a65c_grow_92f84_45 ?_
    simp only [bJx4a65c_grow_92f84_45, run, Nat.reduceAdd, lg, st1, st2, lkill, lset, fvv, sfv, kind3, cat1, retI, retA, List.length_cons, List.length_nil, true_and, and_true, or_true, true_or, qJx4a65c_grow_92f84]
    refine sJx4a65c_grow_92f84_49 ?_
    refine x_anewarray (t := 6) (N := 10) (i := 7) (Or.inl rfl) (lg_mem (by decide +kernel) rfl) (ln_mem (by decide +kernel) rfl) (by decide) (by decide) (by decide) (by decide) (by decide) (by decide +kernel) ?_
    refine rJx4a65c_grow_92f84_55 ?_
    simp only [bJx4a65c_grow_92f84_55, run, Nat.reduceAdd, lg, st1, st2, lkill, lset, fvv, sfv, kind3, cat1, retI, retA, List.length_cons, List.length_nil, true_and, and_true, or_true, true_or, qJx4a65c_grow_92f84]
    refine ⟨(up1_n _ _ hna).trans ha, hq _ ⟨rfl, Kp.nw.tr2 (Kp.sR (S := fun b => b = a) rfl) (fun _ _ h => h), up1_n _ _ hna, ?_, 10, Or.inl rfl, by decide, ?_, fun i hi => absurd hi (by simp)⟩⟩
    · rw [zR_sR]; exact up1_s _ _ _
    · exact zK_nw
  · have e2 : alen h e = nI 10 := by unfold alen; rw [if_neg (fun q => by subst q; have := w.2 2 (Or.inl (by decide)); rw [k1] at this; exact absurd this (by decide)), k1]
    rw [e2, k1, k2]
    refine ⟨ha, Or.inr (by decide), br_t (by decide) ?_⟩
    refine rJx4a65c_grow_92f84_20 ?_
    simp only [bJx4a65c_grow_92f84_20, run, Nat.reduceAdd, lg, st1, st2, lkill, lset, fvv, sfv, kind3, cat1, retI, retA, List.length_cons, List.length_nil, true_and, and_true, or_true, true_or, qJx4a65c_grow_92f84]
    rw [show nI 10 + 1 - nI 10 = 1 by decide, show nI 10 >>> ((1 : Int32) &&& 31) = 5 by decide, show nI 10 = 10 by decide]
    refine sJx4a65c_grow_92f84_27 (l_newLen ?_)
    simp only [cont, Option.toList, List.cons_append, List.nil_append]
    refine rJx4a65c_grow_92f84_30 ?_
    simp only [bJx4a65c_grow_92f84_30, run, Nat.reduceAdd, lg, st1, st2, lkill, lset, fvv, sfv, kind3, cat1, retI, retA, List.length_cons, List.length_nil, true_and, and_true, or_true, true_or, qJx4a65c_grow_92f84]
    rw [hr]
    refine ⟨ha, ?_⟩
    refine sJx4a65c_grow_92f84_37 (by decide) (l_copy2 k1 hc hcast (fun i hi => by rw [k3 i hi]; exact k4 i hi) ?_)
    simp only [cont, Option.toList, List.cons_append, List.nil_append]
    refine rJx4a65c_grow_92f84_40 ?_
    simp only [bJx4a65c_grow_92f84_40, run, Nat.reduceAdd, lg, st1, st2, lkill, lset, fvv, sfv, kind3, cat1, retI, retA, List.length_cons, List.length_nil, true_and, and_true, or_true, true_or, qJx4a65c_grow_92f84]
    refine ⟨(up1_n _ _ hna).trans ha, hq _ ⟨rfl, ?_, up1_n _ _ hna, ?_, 15, Or.inr rfl, by omega, ?_, fun i hi => ?_⟩⟩
    · refine (Kp.nw (S := fun b => b = a) (h := h) (kd := (6, 15))).tr2 ((Kp.rwR (S := fun b => b = a ∨ b = zN h) (Or.inr rfl)).tr (Kp.sR (Or.inl rfl))) (fun b hb hs => ?_)
      rcases hs with e3 | e3
      · exact e3
      · exact absurd e3 (Nat.ne_of_lt hb)
    · rw [zR_sR]; exact up1_s _ _ _
    · exact zK_nw
    · have : zR (sR (rwR (nw h (6, 15)) (zN h) (fun j => if j < 10 then zR h e j else 0)) a 1 (zN h)) (zN h) = fun j => if j < 10 then zR h e j else 0 := (up1_n _ _ (Ne.symm hna)).trans (up1_s _ _ _)
      rw [this]
      simp only [show i < 10 by omega, if_true]
      exact k3 i (by omega)
theorem l_grow {g : Gp} {h : AH} {Q : PQ} {a e ci : Nat} {r : vw_C} {xs : List Nat} (hl : LsR h a e xs) (hf : FullL h e ci xs) (hc : clt[ci]? = some r) (hcast : Cond.castable r.1 "java/lang/Object" ∈ lw_n) (hq : ∀ h', GrP h a xs h' → Q (.inl (some (vR (zN h)))) h') : Ev g mJx4a65c_grow_d5877 [vR a] h Q := by
  refine nJx4a65c_grow_d5877 ?_
  refine rJx4a65c_grow_d5877_0 ?_
  simp only [bJx4a65c_grow_d5877_0, run, Nat.reduceAdd, lg, st1, st2, lkill, lset, fvv, sfv, kind3, cat1, retI, retA, List.length_cons, List.length_nil, true_and, and_true, or_true, true_or, qJx4a65c_grow_d5877]
  rw [hl.2.1]
  refine ⟨hl.1, ?_⟩
  refine sJx4a65c_grow_d5877_7 (by decide) hl.1 (l_growI hl.1 hl.2.2.1 hf hc hcast (fun h' hg => ?_))
  simp only [cont, Option.toList, List.cons_append, List.nil_append]
  refine rJx4a65c_grow_d5877_10 ?_
  simp only [bJx4a65c_grow_d5877_10, run, Nat.reduceAdd, lg, st1, st2, lkill, lset, fvv, sfv, kind3, cat1, retI, retA, List.length_cons, List.length_nil, true_and, and_true, or_true, true_or, qJx4a65c_grow_d5877]
  exact hq h' hg
/-- behind an addition: the row e' is the old one, or new -/
def AdP (h : AH) (a e : Nat) (xs : List Nat) (x : Nat) (h' : AH) : Prop := ∃ e', LsR h' a e' (xs ++ [x]) ∧ (e' = e ∨ e' = zN h) ∧ Kp (fun b => b = a ∨ b = e ∧ e ≠ 2) h h' ∧ zN h' ≤ zN h + 1
theorem LsR.e2 {h : AH} {a e : Nat} {xs : List Nat} (w : Wf h) (hl : LsR h a e xs) : e = 2 ∨ 4 ≤ e := by
  rcases hl.2.2.2 with ⟨e, -⟩ | ⟨cap, k1, -⟩
  · exact Or.inl e
  · exact Or.inr (w.ge k1 (by decide))
theorem l_put {g : Gp} {h : AH} {Q : PQ} {a e x ci cap : Nat} {r : vw_C} {xs : List Nat} {u : Nat × Nat} (ha : zK h a = (1, 0)) (hr : zR h a 1 = e) (hs : zI h a 2 = nI xs.length) (he : zK h e = (6, cap)) (h1 : xs.length < cap) (h2 : cap = 10 ∨ cap = 15) (hx : zK h x = (1, ci)) (hel : ∀ i, i < xs.length → zR h e i = xs.getD i 0) (hc : clt[ci]? = some r) (hcast : Cond.castable r.1 "java/lang/Object" ∈ lw_n)
    (hq : LsR (sI (sR h e xs.length x) a 2 (nI (xs.length + 1))) a e (xs ++ [x]) → Q (.inl none) (sI (sR h e xs.length x) a 2 (nI (xs.length + 1)))) : Ex g mJx4a65c_add_72be8 14 [vR a, vR x, vR e, vI (nI xs.length)] [vR x, vI (nI xs.length), vR e] h u Q := by
  refine Ex.wf (fun w => ?_)
  have hne : a ≠ e := fun q => by rw [q, he] at ha; exact absurd ha (by simp)
  refine x_aastore (t := 6) he (vp_in_nI h1 (by omega)) hx hc (Or.inl ⟨rfl, hcast⟩) (by decide +kernel) ?_
  rw [nI_clamp (by omega)]
  refine rJx4a65c_add_72be8_15 ?_
  simp only [bJx4a65c_add_72be8_15, run, Nat.reduceAdd, lg, st1, st2, lkill, lset, fvv, sfv, kind3, cat1, retI, retA, List.length_cons, List.length_nil, true_and, and_true, or_true, true_or, qJx4a65c_add_72be8]
  rw [nI_1]
  refine ⟨ha, hq ⟨ha, ?_, ?_, Or.inr ⟨cap, he, ?_, h2, fun i hi => ?_⟩⟩⟩
  · rw [zI_sI, up1_s, List.length_append, List.length_cons, List.length_nil]
  · exact (congrFun (up1_n _ _ hne : zR (sR h e xs.length x) a = zR h a) 1).trans hr
  · simp; omega
  · have e1 : zR (sI (sR h e xs.length x) a 2 (nI (xs.length + 1))) e = up1 (zR h e) xs.length x := zR_sR
    rw [e1]
    simp only [List.length_append, List.length_cons, List.length_nil] at hi
    by_cases e2 : i = xs.length
    · subst e2; rw [up1_s]; simp
    · rw [up1_n _ _ e2, hel i (by omega)]
      simp [List.getD_eq_getElem?_getD, List.getElem?_append_left (show i < xs.length by omega)]
theorem l_add3 {g : Gp} {h : AH} {Q : PQ} {a e x ci : Nat} {r : vw_C} {xs : List Nat} (hl : LsR h a e xs) (hlen : xs.length < 15) (hx : zK h x = (1, ci)) (hxs : ∀ y ∈ xs, zK h y = (1, ci)) (hc : clt[ci]? = some r) (hcast : Cond.castable r.1 "java/lang/Object" ∈ lw_n) (hq : ∀ h', AdP h a e xs x h' → Q (.inl none) h') : Ev g mJx4a65c_add_72be8 [vR a, vR x, vR e, vI (nI xs.length)] h Q := by
  refine nJx4a65c_add_72be8 ?_
  refine Ex.wf (fun w => ?_)
  have e2 := hl.e2 w
  obtain ⟨k1, k2, k3, k4⟩ := id hl
  refine rJx4a65c_add_72be8_0 ?_
  simp only [bJx4a65c_add_72be8_0, run, Nat.reduceAdd, lg, st1, st2, lkill, lset, fvv, sfv, kind3, cat1, retI, retA, List.length_cons, List.length_nil, true_and, and_true, or_true, true_or, qJx4a65c_add_72be8]
  have full : FullL h e ci xs → Ex g mJx4a65c_add_72be8 7 [vR a, vR x, vR e, vI (nI xs.length)] [vR a] h (0, 0) Q := by
    intro hf
    refine sJx4a65c_add_72be8_7 (by decide) hl.1 (l_grow hl hf hc hcast (fun h1 hg => ?_))
    obtain ⟨g1, g2, g3, g4, cap, g5, g6, g7, g8⟩ := hg
    simp only [cont, Option.toList, List.cons_append, List.nil_append]
    refine rJx4a65c_add_72be8_10 ?_
    simp only [bJx4a65c_add_72be8_10, run, Nat.reduceAdd, lg, st1, st2, lkill, lset, fvv, sfv, kind3, cat1, retI, retA, List.length_cons, List.length_nil, true_and, and_true, or_true, true_or, qJx4a65c_add_72be8]
    refine l_put (ci := ci) (cap := cap) (g2.kd w k1 (by decide)) g4 (by rw [g3]; exact k2) g7 g6 g5 (g2.kd w hx (by decide)) g8 hc hcast (fun hL => hq _ ⟨_, hL, Or.inr rfl, ?_, Nat.le_of_eq g1⟩)
    refine g2.tr2 ((Kp.sR (S := fun b => b = a ∨ b = zN h) (Or.inr rfl)).tr (Kp.sI (Or.inl rfl))) ?_ |>.mono (fun b _ hb => Or.inl hb)
    intro b hb hs
    rcases hs with e3 | e3
    · exact e3
    · exact absurd e3 (Nat.ne_of_lt hb)
  rcases k4 with ⟨rfl, rfl⟩ | ⟨cap, c1, c2, c3, c4⟩
  · refine ⟨Or.inl rfl, bn_t ?_ (full (Or.inl ⟨rfl, rfl⟩))⟩
    rw [show alen h 2 = 0 from if_pos rfl]
    rfl
  · have e4 : e ≠ 2 := by have := w.ge c1 (by decide); omega
    have e5 : alen h e = nI cap := by unfold alen; rw [if_neg e4, c1]
    rw [e5, c1]
    by_cases hfull : xs.length = cap
    · refine ⟨Or.inr ⟨Nat.le_of_ble_eq_true rfl, Nat.le_of_ble_eq_true rfl⟩, bn_t (by rw [hfull]) (full (Or.inr ⟨?_, ?_, fun i hi => c4 i (by omega), fun i hi => ?_⟩))⟩
      · rw [c1, show cap = 10 by omega]
      · omega
      · refine hxs _ ?_
        rw [List.getD_eq_getElem?_getD, List.getElem?_eq_getElem (by omega)]
        exact List.getElem_mem _
    · refine ⟨Or.inr ⟨Nat.le_of_ble_eq_true rfl, Nat.le_of_ble_eq_true rfl⟩, bn_f (fun hn => hfull ((nI_eq (by omega) (by omega)).mp hn)) ?_⟩
      refine rJx4a65c_add_72be8_11 ?_
      simp only [bJx4a65c_add_72be8_11, run, Nat.reduceAdd, lg, st1, st2, lkill, lset, fvv, sfv, kind3, cat1, retI, retA, List.length_cons, List.length_nil, true_and, and_true, or_true, true_or, qJx4a65c_add_72be8]
      refine l_put (ci := ci) (cap := cap) k1 k3 k2 c1 (by omega) c3 hx c4 hc hcast (fun hL => hq _ ⟨_, hL, Or.inl rfl, ?_, Nat.le_succ _⟩)
      exact (Kp.sR (S := fun b => b = a ∨ b = e ∧ e ≠ 2) (Or.inr ⟨rfl, e4⟩)).tr (Kp.sI (Or.inl rfl))
theorem l_add {g : Gp} {h : AH} {Q : PQ} {a e x ci : Nat} {r : vw_C} {xs : List Nat} (hl : LsR h a e xs) (hlen : xs.length < 15) (hx : zK h x = (1, ci)) (hxs : ∀ y ∈ xs, zK h y = (1, ci)) (hc : clt[ci]? = some r) (hcast : Cond.castable r.1 "java/lang/Object" ∈ lw_n) (hq : ∀ h', AdP h a e xs x h' → Q (.inl (some (vI 1))) h') : Ev g mJx4a65c_add_9ea2d [vR a, vR x] h Q := by
  refine nJx4a65c_add_9ea2d ?_
  refine Ex.wf (fun w => ?_)
  obtain ⟨k1, k2, k3, k4⟩ := id hl
  refine rJx4a65c_add_9ea2d_0 ?_
  simp only [bJx4a65c_add_9ea2d_0, run, Nat.reduceAdd, lg, st1, st2, lkill, lset, fvv, sfv, kind3, cat1, retI, retA, List.length_cons, List.length_nil, true_and, and_true, or_true, true_or, qJx4a65c_add_9ea2d]
  generalize hh1 : sI h a 0 (zI h a 0 + 1) = h1
  have hK1 : zK h1 = zK h := by rw [← hh1]; rfl
  have hR1 : zR h1 = zR h := by rw [← hh1]; rfl
  have hN1 : zN h1 = zN h := by rw [← hh1]; rfl
  have hI1 : zI h1 a 2 = zI h a 2 := by rw [← hh1, zI_sI]; exact up1_n _ _ (by decide)
  have kp1 : Kp (fun b => b = a) h h1 := by rw [← hh1]; exact Kp.sI rfl
  have hl1 : LsR h1 a e xs := ⟨by rw [hK1]; exact k1, by rw [hI1]; exact k2, by rw [hR1]; exact k3, by rw [hK1, hR1]; exact k4⟩
  rw [hK1, hR1, hI1, k2, k3]
  refine ⟨k1, k1, k1, k1, ?_⟩
  refine sJx4a65c_add_9ea2d_20 (by decide) (by rw [hK1]; exact k1) (l_add3 hl1 hlen (by rw [hK1]; exact hx) (by rw [hK1]; exact hxs) hc hcast (fun h2 ha => ?_))
  obtain ⟨e', a1, a2, a3, a4⟩ := ha
  simp only [cont, Option.toList, List.cons_append, List.nil_append]
  refine rJx4a65c_add_9ea2d_23 ?_
  simp only [bJx4a65c_add_9ea2d_23, run, Nat.reduceAdd, lg, st1, st2, lkill, lset, fvv, sfv, kind3, cat1, retI, retA, List.length_cons, List.length_nil, true_and, and_true, or_true, true_or, qJx4a65c_add_9ea2d]
  rw [hN1] at a2 a4
  exact hq _ ⟨e', a1, a2, (kp1.mono (fun b _ hb => Or.inl hb)).tr a3, a4⟩
theorem l_initC {g : Gp} {h : AH} {Q : PQ} {a : Nat} (ha : zK h a = (1, 0)) (h0 : a ≠ 0) (hq : Q (.inl none) h) : Ev g mJxa1e45_init_da8c8 [vR a] h Q := by
  refine nJxa1e45_init_da8c8 ?_
  refine rJxa1e45_init_da8c8_0 ?_
  simp only [bJxa1e45_init_da8c8_0, run, Nat.reduceAdd, lg, st1, st2, lkill, lset, fvv, sfv, kind3, cat1, retI, retA, List.length_cons, List.length_nil, true_and, and_true, or_true, true_or, qJxa1e45_init_da8c8]
  refine sJxa1e45_init_da8c8_1 h0 ?_
  refine rJxa1e45_init_da8c8_4 ?_
  simp only [bJxa1e45_init_da8c8_4, run, Nat.reduceAdd, lg, st1, st2, lkill, lset, fvv, sfv, kind3, cat1, retI, retA, List.length_cons, List.length_nil, true_and, and_true, or_true, true_or, qJxa1e45_init_da8c8]
  exact hq
theorem l_initL {g : Gp} {h : AH} {Q : PQ} {a : Nat} (ha : zK h a = (1, 0)) (h0 : a ≠ 0) (hq : Q (.inl none) (sI h a 0 0)) : Ev g mJxc12de_init_da8c8 [vR a] h Q := by
  refine nJxc12de_init_da8c8 ?_
  refine rJxc12de_init_da8c8_0 ?_
  simp only [bJxc12de_init_da8c8_0, run, Nat.reduceAdd, lg, st1, st2, lkill, lset, fvv, sfv, kind3, cat1, retI, retA, List.length_cons, List.length_nil, true_and, and_true, or_true, true_or, qJxc12de_init_da8c8]
  refine sJxc12de_init_da8c8_1 h0 (l_initC ha h0 ?_)
  simp only [cont, Option.toList, List.cons_append, List.nil_append]
  refine rJxc12de_init_da8c8_4 ?_
  simp only [bJxc12de_init_da8c8_4, run, Nat.reduceAdd, lg, st1, st2, lkill, lset, fvv, sfv, kind3, cat1, retI, retA, List.length_cons, List.length_nil, true_and, and_true, or_true, true_or, qJxc12de_init_da8c8]
  exact ⟨ha, hq⟩
theorem l_init {g : Gp} {h : AH} {Q : PQ} {a : Nat} (ha : zK h a = (1, 0)) (hz : zI h a 2 = 0) (hq : ∀ h', LsR h' a 2 [] → Kp (fun b => b = a) h h' → zN h' = zN h → Q (.inl none) h') : Ev g mJx4a65c_init_da8c8 [vR a] h Q := by
  refine nJx4a65c_init_da8c8 ?_
  refine Ex.wf (fun w => ?_)
  have h0 : a ≠ 0 := by have := w.ge ha (by decide); omega
  refine rJx4a65c_init_da8c8_0 ?_
  simp only [bJx4a65c_init_da8c8_0, run, Nat.reduceAdd, lg, st1, st2, lkill, lset, fvv, sfv, kind3, cat1, retI, retA, List.length_cons, List.length_nil, true_and, and_true, or_true, true_or, qJx4a65c_init_da8c8]
  refine sJx4a65c_init_da8c8_1 h0 (l_initL ha h0 ?_)
  simp only [cont, Option.toList, List.cons_append, List.nil_append]
  refine rJx4a65c_init_da8c8_4 ?_
  simp only [bJx4a65c_init_da8c8_4, run, Nat.reduceAdd, lg, st1, st2, lkill, lset, fvv, sfv, kind3, cat1, retI, retA, List.length_cons, List.length_nil, true_and, and_true, or_true, true_or, qJx4a65c_init_da8c8]
  refine x_gets (i := 39) (lg_mem (by decide +kernel) rfl) (by decide +kernel) ?_
  refine rJx4a65c_init_da8c8_8 ?_
  simp only [bJx4a65c_init_da8c8_8, run, Nat.reduceAdd, lg, st1, st2, lkill, lset, fvv, sfv, kind3, cat1, retI, retA, List.length_cons, List.length_nil, true_and, and_true, or_true, true_or, qJx4a65c_init_da8c8]
  refine ⟨ha, hq _ ⟨ha, ?_, ?_, Or.inl ⟨rfl, rfl⟩⟩ ((Kp.sI (S := fun b => b = a) rfl).tr (Kp.sR rfl)) rfl⟩
  · have e1 : zI (sR (sI h a 0 0) a 1 2) a = up1 (zI h a) 0 0 := zI_sI
    rw [e1, up1_n _ _ (by decide), hz]
    rfl
  · rw [zR_sR]; exact up1_s _ _ _
/-- the last one is taken away -/
theorem l_fastRemove {g : Gp} {h : AH} {Q : PQ} {a e n : Nat} {xs : List Nat} (hl : LsR h a e xs) (hn : xs.length = n + 1) (hq : ∀ h', LsR h' a e xs.dropLast → Kp (fun b => b = a ∨ b = e) h h' → zN h' = zN h → Q (.inl none) h') : Ev g mJx4a65c_fastRemove_b59b0 [vR a, vR e, vI (nI n)] h Q := by
  refine nJx4a65c_fastRemove_b59b0 ?_
  have hlen := hl.len
  obtain ⟨k1, k2, k3, k4⟩ := id hl
  rcases k4 with ⟨rfl, rfl⟩ | ⟨cap, c1, c2, c3, c4⟩
  · simp at hn
  have hne : a ≠ e := fun q => by rw [q, c1] at k1; exact absurd k1 (by simp)
  refine rJx4a65c_fastRemove_b59b0_0 ?_
  simp only [bJx4a65c_fastRemove_b59b0_0, run, Nat.reduceAdd, lg, st1, st2, lkill, lset, fvv, sfv, kind3, cat1, retI, retA, List.length_cons, List.length_nil, true_and, and_true, or_true, true_or, qJx4a65c_fastRemove_b59b0]
  have es : zI (sI h a 0 (zI h a 0 + 1)) a 2 = nI (n + 1) := by rw [zI_sI, up1_n _ _ (by decide), k2, hn]
  rw [es, show nI (n + 1) - 1 = nI n from nI_pred n]
  refine ⟨k1, k1, k1, ?_⟩
  refine br_t (nI_le (Nat.le_refl n) (by omega)) ?_
  refine rJx4a65c_fastRemove_b59b0_34 ?_
  simp only [bJx4a65c_fastRemove_b59b0_34, run, Nat.reduceAdd, lg, st1, st2, lkill, lset, fvv, sfv, kind3, cat1, retI, retA, List.length_cons, List.length_nil, true_and, and_true, or_true, true_or, qJx4a65c_fastRemove_b59b0]
  refine ⟨k1, ?_⟩
  refine x_aastoreN (t := 6) (n := cap) (Or.inl rfl) c1 (vp_in_nI (by omega) (by omega)) (by decide +kernel) ?_
  rw [nI_clamp (by omega)]
  refine rJx4a65c_fastRemove_b59b0_43 ?_
  simp only [bJx4a65c_fastRemove_b59b0_43, run, Nat.reduceAdd, lg, st1, st2, lkill, lset, fvv, sfv, kind3, cat1, retI, retA, List.length_cons, List.length_nil, true_and, and_true, or_true, true_or, qJx4a65c_fastRemove_b59b0]
  refine hq _ ⟨k1, ?_, ?_, Or.inr ⟨cap, c1, ?_, c3, fun i hi => ?_⟩⟩ (((Kp.sI (S := fun b => b = a ∨ b = e) (Or.inl rfl)).tr (Kp.sI (Or.inl rfl))).tr (Kp.sR (Or.inr rfl))) rfl
  · have e1 : zI (sR (sI (sI h a 0 (zI h a 0 + 1)) a 2 (nI n)) e n 0) a = up1 (zI (sI h a 0 (zI h a 0 + 1)) a) 2 (nI n) := zI_sI
    rw [e1, up1_s, List.length_dropLast, hn]
    rfl
  · exact (congrFun (up1_n _ _ hne : zR (sR (sI (sI h a 0 (zI h a 0 + 1)) a 2 (nI n)) e n 0) a = zR h a) 1).trans k3
  · rw [List.length_dropLast]; omega
  · rw [List.length_dropLast, hn] at hi
    have e2 : zR (sR (sI (sI h a 0 (zI h a 0 + 1)) a 2 (nI n)) e n 0) e = up1 (zR h e) n 0 := zR_sR
    rw [e2, up1_n _ _ (by omega), c4 i (by omega)]
    simp only [List.getD_eq_getElem?_getD, List.getElem?_dropLast]
    rw [if_pos (by omega)]
theorem l_remove {g : Gp} {h : AH} {Q : PQ} {a e n : Nat} {xs : List Nat} (hl : LsR h a e xs) (hn : xs.length = n + 1) (hq : ∀ h' x, LsR h' a e xs.dropLast → Kp (fun b => b = a ∨ b = e) h h' → zN h' = zN h → Q (.inl (some (vR x))) h') : Ev g mJx4a65c_remove_915e3 [vR a, vI (nI n)] h Q := by
  refine nJx4a65c_remove_915e3 ?_
  have hlen := hl.len
  obtain ⟨k1, k2, k3, k4⟩ := id hl
  refine rJx4a65c_remove_915e3_0 ?_
  simp only [bJx4a65c_remove_915e3_0, run, Nat.reduceAdd, lg, st1, st2, lkill, lset, fvv, sfv, kind3, cat1, retI, retA, List.length_cons, List.length_nil, true_and, and_true, or_true, true_or, qJx4a65c_remove_915e3]
  rw [k2]
  refine ⟨k1, ?_⟩
  refine sJx4a65c_remove_915e3_5 (l_chk (by omega) (by omega) ?_)
  simp only [cont, Option.toList, List.cons_append, List.nil_append]
  refine rJx4a65c_remove_915e3_8 ?_
  simp only [bJx4a65c_remove_915e3_8, run, Nat.reduceAdd, lg, st1, st2, lkill, lset, fvv, sfv, kind3, cat1, retI, retA, List.length_cons, List.length_nil, true_and, and_true, or_true, true_or, qJx4a65c_remove_915e3]
  rcases k4 with ⟨rfl, rfl⟩ | ⟨cap, c1, c2, c3, c4⟩
  · simp at hn
  rw [k3, c1]
  refine ⟨k1, Or.inl rfl, vp_in_nI (by omega) (by omega), ?_⟩
  refine sJx4a65c_remove_915e3_21 k1 (l_fastRemove hl hn (fun h1 q1 q2 q3 => ?_))
  simp only [cont, Option.toList, List.cons_append, List.nil_append]
  refine rJx4a65c_remove_915e3_24 ?_
  simp only [bJx4a65c_remove_915e3_24, run, Nat.reduceAdd, lg, st1, st2, lkill, lset, fvv, sfv, kind3, cat1, retI, retA, List.length_cons, List.length_nil, true_and, and_true, or_true, true_or, qJx4a65c_remove_915e3]
  exact hq h1 _ q1 q2 q3
/-- in the midst, where room is left -/
theorem l_range {g : Gp} {h : AH} {Q : PQ} {a e i : Nat} {xs : List Nat} (hl : LsR h a e xs) (hi : i ≤ xs.length) (hq : Q (.inl none) h) : Ev g mJx4a65c_rangeCheckForAdd_d00df [vR a, vI (nI i)] h Q := by
  refine nJx4a65c_rangeCheckForAdd_d00df ?_
  have hlen := hl.len
  refine rJx4a65c_rangeCheckForAdd_d00df_0 ?_
  simp only [bJx4a65c_rangeCheckForAdd_d00df_0, run, Nat.reduceAdd, lg, st1, st2, lkill, lset, fvv, sfv, kind3, cat1, retI, retA, List.length_cons, List.length_nil, true_and, and_true, or_true, true_or, qJx4a65c_rangeCheckForAdd_d00df]
  rw [hl.2.1]
  refine ⟨hl.1, br_f (nI_nlt hi (by omega)) (br_t (nI_pos' (by omega)) ?_)⟩
  refine rJx4a65c_rangeCheckForAdd_d00df_25 ?_
  simp only [bJx4a65c_rangeCheckForAdd_d00df_25, run, Nat.reduceAdd, lg, st1, st2, lkill, lset, fvv, sfv, kind3, cat1, retI, retA, List.length_cons, List.length_nil, true_and, and_true, or_true, true_or, qJx4a65c_rangeCheckForAdd_d00df]
  exact hq
theorem l_addAt {g : Gp} {h : AH} {Q : PQ} {a e i x ci : Nat} {r : vw_C} {xs : List Nat} (hl : LsR h a e xs) (h0 : xs ≠ []) (h9 : xs.length < 10) (hi : i ≤ xs.length) (hx : zK h x = (1, ci)) (hxs : ∀ y ∈ xs, zK h y = (1, ci)) (hc : clt[ci]? = some r) (hcast : Cond.castable r.1 "java/lang/Object" ∈ lw_n) (hq : ∀ h', LsR h' a e (xs.take i ++ x :: xs.drop i) → Kp (fun b => b = a ∨ b = e) h h' → zN h' = zN h → Q (.inl none) h') : Ev g mJx4a65c_add_7a177 [vR a, vI (nI i), vR x] h Q := by
  refine nJx4a65c_add_7a177 ?_
  refine Ex.wf (fun w => ?_)
  obtain ⟨k1, k2, k3, k4⟩ := id hl
  rcases k4 with ⟨rfl, rfl⟩ | ⟨cap, c1, c2, c3, c4⟩
  · exact absurd rfl h0
  have hne : a ≠ e := fun q => by rw [q, c1] at k1; exact absurd k1 (by simp)
  have e4 : e ≠ 2 := by have := w.ge c1 (by decide); omega
  refine rJx4a65c_add_7a177_0 ?_
  simp only [bJx4a65c_add_7a177_0, run, Nat.reduceAdd, lg, st1, st2, lkill, lset, fvv, sfv, kind3, cat1, retI, retA, List.length_cons, List.length_nil, true_and, and_true, or_true, true_or, qJx4a65c_add_7a177]
  refine sJx4a65c_add_7a177_2 k1 (l_range hl hi ?_)
  simp only [cont, Option.toList, List.cons_append, List.nil_append]
  refine rJx4a65c_add_7a177_5 ?_
  simp only [bJx4a65c_add_7a177_5, run, Nat.reduceAdd, lg, st1, st2, lkill, lset, fvv, sfv, kind3, cat1, retI, retA, List.length_cons, List.length_nil, true_and, and_true, or_true, true_or, qJx4a65c_add_7a177]
  have es : zI (sI h a 0 (zI h a 0 + 1)) a 2 = nI xs.length := by rw [zI_sI, up1_n _ _ (by decide), k2]
  have er : zR (sI h a 0 (zI h a 0 + 1)) a 1 = e := k3
  have el : alen (sI h a 0 (zI h a 0 + 1)) e = nI cap := by
    unfold alen
    rw [if_neg e4, show zK (sI h a 0 (zI h a 0 + 1)) e = (6, cap) from c1]
  rw [es, er, el]
  refine ⟨k1, k1, k1, k1, Or.inr (by rw [show zK (sI h a 0 (zI h a 0 + 1)) e = (6, cap) from c1]; exact ⟨Nat.le_of_ble_eq_true rfl, Nat.le_of_ble_eq_true rfl⟩), bn_f (fun hn => by have := (nI_eq (by omega) (by omega)).mp hn; omega) ?_⟩
  refine rJx4a65c_add_7a177_38 ?_
  simp only [bJx4a65c_add_7a177_38, run, Nat.reduceAdd, lg, st1, st2, lkill, lset, fvv, sfv, kind3, cat1, retI, retA, List.length_cons, List.length_nil, true_and, and_true, or_true, true_or, qJx4a65c_add_7a177]
  rw [pk_sub hi, nI_1]
  refine x_copyq (i := 112) (ci := ci) (r := r) (n0 := cap) (n1 := cap) ⟨lg_mem (by decide +kernel) rfl, lg_mem (by decide +kernel) rfl, lg_mem (by decide +kernel) rfl, lg_mem (by decide +kernel) rfl⟩ c1 c1 hc hcast (nI_pos (by omega)) (nI_pos (by omega)) (nI_pos (by omega)) (by rw [nI_clamp (by omega), nI_clamp (by omega)]; omega) (by rw [nI_clamp (by omega), nI_clamp (by omega)]; omega) ?_ (by decide) (Nat.le_of_ble_eq_true rfl) (by decide +kernel) ?_
  · intro j hj _
    rw [nI_clamp (by omega)] at hj ⊢
    show zK h (zR h e (i + j)) = (1, ci)
    rw [c4 _ (by omega)]
    refine hxs _ ?_
    rw [List.getD_eq_getElem?_getD, List.getElem?_eq_getElem (by omega)]
    exact List.getElem_mem _
  rw [nI_clamp (by omega), nI_clamp (by omega), nI_clamp (by omega)]
  refine rJx4a65c_add_7a177_52 ?_
  simp only [bJx4a65c_add_7a177_52, run, Nat.reduceAdd, lg, st1, st2, lkill, lset, fvv, sfv, kind3, cat1, retI, retA, List.length_cons, List.length_nil, true_and, and_true, or_true, true_or, qJx4a65c_add_7a177]
  refine x_aastore (t := 6) (n := cap) c1 (vp_in_nI (by omega) (by omega)) hx hc (Or.inl ⟨rfl, hcast⟩) (by decide +kernel) ?_
  rw [nI_clamp (by omega)]
  refine rJx4a65c_add_7a177_57 ?_
  simp only [bJx4a65c_add_7a177_57, run, Nat.reduceAdd, lg, st1, st2, lkill, lset, fvv, sfv, kind3, cat1, retI, retA, List.length_cons, List.length_nil, true_and, and_true, or_true, true_or, qJx4a65c_add_7a177]
  rw [nI_1]
  generalize hcp : va_cpy (zR (sI h a 0 (zI h a 0 + 1)) e) (zR (sI h a 0 (zI h a 0 + 1)) e) i (i + 1) (xs.length - i) = f
  refine ⟨k1, hq _ ⟨k1, ?_, ?_, Or.inr ⟨cap, c1, ?_, c3, fun j hj => ?_⟩⟩ ((((Kp.sI (S := fun b => b = a ∨ b = e) (Or.inl rfl)).tr (Kp.rwR (Or.inr rfl))).tr (Kp.sR (Or.inr rfl))).tr (Kp.sI (Or.inl rfl))) rfl⟩
  · rw [zI_sI, up1_s]
    congr 1
    simp
    omega
  · have e1 : zR (sI (sR (rwR (sI h a 0 (zI h a 0 + 1)) e f) e i x) a 2 (nI (xs.length + 1))) a = zR h a := (up1_n _ _ hne).trans (up1_n _ _ hne)
    rw [e1]
    exact k3
  · simp; omega
  · have e1 : zR (sI (sR (rwR (sI h a 0 (zI h a 0 + 1)) e f) e i x) a 2 (nI (xs.length + 1))) e = up1 f i x := by
      have : zR (sR (rwR (sI h a 0 (zI h a 0 + 1)) e f) e i x) e = up1 (zR (rwR (sI h a 0 (zI h a 0 + 1)) e f) e) i x := zR_sR
      rw [zR_rwR] at this
      exact this
    rw [e1]
    have hj2 : j < xs.length + 1 := by
      simp only [List.length_append, List.length_cons, List.length_take, List.length_drop] at hj
      omega
    by_cases j1 : j = i
    · subst j1
      rw [up1_s, List.getD_eq_getElem?_getD, List.getElem?_append_right (by rw [List.length_take]; omega), List.length_take, Nat.min_eq_left hi, Nat.sub_self]
      rfl
    · rw [up1_n _ _ j1, ← hcp]
      show va_cpy (zR h e) (zR h e) i (i + 1) (xs.length - i) j = _
      unfold va_cpy
      by_cases j2 : j < i
      · rw [if_neg (by omega), c4 j (by omega), List.getD_eq_getElem?_getD, List.getD_eq_getElem?_getD, List.getElem?_append_left (by simp; omega), List.getElem?_take_of_lt j2]
      · rw [if_pos (by omega), c4 _ (by omega), List.getD_eq_getElem?_getD, List.getD_eq_getElem?_getD, List.getElem?_append_right (by simp; omega), List.length_take, Nat.min_eq_left hi, show j - i = (j - i - 1) + 1 by omega, List.getElem?_cons_succ, List.getElem?_drop, show i + (j - (i + 1)) = i + (j - i - 1) by omega]
