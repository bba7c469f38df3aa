/-! ===== columns ===== -/
def clf (f : Nat → Nat) : Nat → List Nat → List Nat → List (Nat × Nat)
  | 0, _, _ => []
  | _ + 1, [], [] => []
  | n + 1, [], y :: m => (16, y) :: clf f n [] m
  | n + 1, x :: l, [] => (x, 16) :: clf f n l []
  | n + 1, x :: l, y :: m => if cst f x y + lc f l m = lc f (x :: l) (y :: m) then (x, y) :: clf f n l m else if 4 + lc f l (y :: m) = lc f (x :: l) (y :: m) then (x, 16) :: clf f n l (y :: m) else (16, y) :: clf f n (x :: l) m
def cls (f : Nat → Nat) (a b : List Nat) : List (Nat × Nat) := clf f (a.length + b.length) a b
theorem clf_nil {f : Nat → Nat} : ∀ n, clf f n [] [] = []
  | 0 => rfl
  | _ + 1 => rfl
theorem clf_len {f : Nat → Nat} : ∀ n a b, (clf f n a b).length ≤ n
  | 0, _, _ => Nat.le_refl _
  | _ + 1, [], [] => Nat.zero_le _
  | n + 1, [], y :: m => by have := clf_len (f := f) n [] m; simp [clf]; omega
  | n + 1, x :: l, [] => by have := clf_len (f := f) n l []; simp [clf]; omega
  | n + 1, x :: l, y :: m => by
    have h1 := clf_len (f := f) n l m
    have h2 := clf_len (f := f) n l (y :: m)
    have h3 := clf_len (f := f) n (x :: l) m
    unfold clf
    split
    · simp; omega
    · split
      · simp; omega
      · simp; omega
theorem clf_le {f : Nat → Nat} : ∀ n a b, (∀ s ∈ a, s < 16) → (∀ s ∈ b, s < 16) → ∀ c ∈ clf f n a b, c.1 ≤ 16 ∧ c.2 ≤ 16
  | 0, _, _, _, _, c, h => by simp [clf] at h
  | _ + 1, [], [], _, _, c, h => by simp [clf] at h
  | n + 1, [], y :: m, h1, h2, c, h => by
    have a2 := h2 y List.mem_cons_self
    simp only [clf, List.mem_cons] at h
    rcases h with rfl | h
    · exact ⟨Nat.le_refl _, by show y ≤ 16; omega⟩
    · exact clf_le n [] m h1 (fun s hs => h2 s (List.mem_cons_of_mem _ hs)) c h
  | n + 1, x :: l, [], h1, h2, c, h => by
    have a1 := h1 x List.mem_cons_self
    simp only [clf, List.mem_cons] at h
    rcases h with rfl | h
    · exact ⟨by show x ≤ 16; omega, Nat.le_refl _⟩
    · exact clf_le n l [] (fun s hs => h1 s (List.mem_cons_of_mem _ hs)) h2 c h
  | n + 1, x :: l, y :: m, h1, h2, c, h => by
    have a1 := h1 x List.mem_cons_self
    have a2 := h2 y List.mem_cons_self
    have t1 : ∀ s ∈ l, s < 16 := fun s hs => h1 s (List.mem_cons_of_mem _ hs)
    have t2 : ∀ s ∈ m, s < 16 := fun s hs => h2 s (List.mem_cons_of_mem _ hs)
    unfold clf at h
    split at h
    · rcases List.mem_cons.mp h with rfl | h
      · exact ⟨by show x ≤ 16; omega, by show y ≤ 16; omega⟩
      · exact clf_le n l m t1 t2 c h
    · split at h
      · rcases List.mem_cons.mp h with rfl | h
        · exact ⟨by show x ≤ 16; omega, Nat.le_refl _⟩
        · exact clf_le n l (y :: m) t1 h2 c h
      · rcases List.mem_cons.mp h with rfl | h
        · exact ⟨Nat.le_refl _, by show y ≤ 16; omega⟩
        · exact clf_le n (x :: l) m h1 t2 c h
/-- columns as the class keeps them -/
def ColR (h : AH) (cs : List (Nat × Nat)) : Prop := ∀ k, k < cs.length → zI h 63 k = nI (cs.getD k (0, 0)).1 ∧ zI h 64 k = nI (cs.getD k (0, 0)).2
theorem cls_len {f : Nat → Nat} {a b : List Nat} (ha : Wok a) (hb : Wok b) : (cls f a b).length ≤ 20 := by
  have := clf_len (f := f) (a.length + b.length) a b
  have := ha.1
  have := hb.1
  unfold cls
  omega
theorem ColR.add {h : AH} {cs : List (Nat × Nat)} {U V : Nat} (hc : ColR h cs) : ColR (sI (sI h 63 cs.length (nI U)) 64 cs.length (nI V)) (cs ++ [(U, V)]) := by
  intro k hk
  simp only [List.length_append, List.length_cons, List.length_nil] at hk
  have e3 : zI (sI (sI h 63 cs.length (nI U)) 64 cs.length (nI V)) 63 = up1 (zI h 63) cs.length (nI U) := by rw [zI_n (by decide), zI_sI]
  have e4 : zI (sI (sI h 63 cs.length (nI U)) 64 cs.length (nI V)) 64 = up1 (zI h 64) cs.length (nI V) := by rw [zI_sI, zI_n (by decide)]
  rw [e3, e4]
  by_cases e : k = cs.length
  · subst e
    rw [up1_s, up1_s, List.getD_eq_getElem?_getD, List.getElem?_append_right (Nat.le_refl _), Nat.sub_self]
    exact ⟨rfl, rfl⟩
  · rw [up1_n _ _ e, up1_n _ _ e, List.getD_eq_getElem?_getD, List.getElem?_append_left (by omega), ← List.getD_eq_getElem?_getD]
    exact hc k (by omega)
theorem clf_p {f : Nat → Nat} {a b : List Nat} {i j n : Nat} (hi : i < a.length) (hj : j < b.length) (h : cst f (a.getD i 0) (b.getD j 0) + LL f a b (i + 1) (j + 1) = LL f a b i j) : clf f (n + 1) (a.drop i) (b.drop j) = (a.getD i 0, b.getD j 0) :: clf f n (a.drop (i + 1)) (b.drop (j + 1)) := by
  unfold LL at h
  rw [dropc hi, dropc hj] at h ⊢
  rw [clf, if_pos h]
theorem clf_f {f : Nat → Nat} {a b : List Nat} {i j n : Nat} (hi : i < a.length) (hj : j ≤ b.length) (hp : ¬ (i < a.length ∧ j < b.length ∧ cst f (a.getD i 0) (b.getD j 0) + LL f a b (i + 1) (j + 1) = LL f a b i j)) (h : 4 + LL f a b (i + 1) j = LL f a b i j) : clf f (n + 1) (a.drop i) (b.drop j) = (a.getD i 0, 16) :: clf f n (a.drop (i + 1)) (b.drop j) := by
  by_cases hj2 : j < b.length
  · have hp2 : ¬ cst f (a.getD i 0) (b.getD j 0) + LL f a b (i + 1) (j + 1) = LL f a b i j := fun q => hp ⟨hi, hj2, q⟩
    unfold LL at h hp2
    rw [dropc hi, dropc hj2] at h hp2 ⊢
    rw [clf, if_neg hp2, if_pos h]
  · have : j = b.length := by omega
    subst this
    rw [dropc hi, dropn]
    rfl
theorem clf_n {f : Nat → Nat} {a b : List Nat} {i j n : Nat} (hi : i ≤ a.length) (hj : j ≤ b.length) (hm : i < a.length ∨ j < b.length) (hp : ¬ (i < a.length ∧ j < b.length ∧ cst f (a.getD i 0) (b.getD j 0) + LL f a b (i + 1) (j + 1) = LL f a b i j)) (h : ¬ (i < a.length ∧ 4 + LL f a b (i + 1) j = LL f a b i j)) : j < b.length ∧ clf f (n + 1) (a.drop i) (b.drop j) = (16, b.getD j 0) :: clf f n (a.drop i) (b.drop (j + 1)) := by
  by_cases hj2 : j < b.length
  · refine ⟨hj2, ?_⟩
    by_cases hi2 : i < a.length
    · have hp2 : ¬ cst f (a.getD i 0) (b.getD j 0) + LL f a b (i + 1) (j + 1) = LL f a b i j := fun q => hp ⟨hi2, hj2, q⟩
      have h2 : ¬ 4 + LL f a b (i + 1) j = LL f a b i j := fun q => h ⟨hi2, q⟩
      unfold LL at h2 hp2
      rw [dropc hi2, dropc hj2] at h2 hp2 ⊢
      rw [clf, if_neg hp2, if_neg h2]
    · have : i = a.length := by omega
      subst this
      rw [dropc hj2, dropn]
      rfl
  · have hi2 : i < a.length := by omega
    have : j = b.length := by omega
    subst this
    refine absurd ⟨hi2, ?_⟩ h
    unfold LL
    rw [dropn, lc_nil, lc_nil, List.length_drop, List.length_drop]
    omega
theorem e_align {g : Gp} {f : Nat → Nat} {a b : List Nat} {h : AH} {Q : PQ} (hs : Sn h f) (hx : AlS h) (ha : Wok a) (hb : Wok b)
    (hq : ∀ h', zK h' = zK h → zR h' = zR h → Kp (fun c => 48 ≤ c ∧ c ≤ 64) h h' → ColR h' (cls f a b) → Q (.inl (some (vI (nI (cls f a b).length)))) h') : Ev g mX0_align [vR 48, vL (eC a), vL (eC b)] h Q := by
  have ha1 := ha.1
  have hb1 := hb.1
  refine nX0_align ?_
  refine Ex.wf (fun w => ?_)
  refine rX0_align_0 ?_
  simp only [bX0_align_0, run, Nat.reduceAdd, lg, st1, st2, lkill, lset, fvv, sfv, kind3, cat1, retI, retA, List.length_cons, List.length_nil, true_and, and_true, or_true, true_or, qX0_align]
  refine sX0_align_3 hx.1 (e_weigh hs hx ha hb fun h1 k1 r1 kp1 c1 rest1 => ?_)
  simp only [cont, Option.toList, List.cons_append, List.nil_append]
  have lp : ∀ n i j h2 done, (a.length - i) + (b.length - j) ≤ n → i ≤ a.length → j ≤ b.length → done.length ≤ i + j → zK h2 = zK h → zR h2 = zR h → Kp (fun c => 63 ≤ c ∧ c ≤ 64) h1 h2 → ColR h2 done → cls f a b = done ++ clf f n (a.drop i) (b.drop j) → ∀ y1 y2 y3, Ex g mX0_align 16 [vR 48, vL (eC a), vU, vL (eC b), vU, vI (nI i), vI (nI j), vI (nI done.length), y1, y2, y3] [] h2 (0, 0) Q := by
    have ended : ∀ i j h2 done, i = a.length → j = b.length → done.length ≤ i + j → zK h2 = zK h → zR h2 = zR h → Kp (fun c => 63 ≤ c ∧ c ≤ 64) h1 h2 → ColR h2 done → cls f a b = done → ∀ y1 y2 y3, Ex g mX0_align 16 [vR 48, vL (eC a), vU, vL (eC b), vU, vI (nI i), vI (nI j), vI (nI done.length), y1, y2, y3] [] h2 (0, 0) Q := by
      intro i j h2 done i1 j1 hd ek er kp2 cr ec y1 y2 y3
      have x1 : zK h2 48 = (1, 1) := by rw [ek]; exact hx.1
      have w1 : 48 < zN h1 := Nat.lt_of_lt_of_le (w.lt hx.1 (by decide)) kp1.1
      have s48 := (kp2.2.2 48 w1 (by decide)).1
      have f1 : zI h2 48 3 = nI a.length := by rw [s48]; exact c1.1
      have f2 : zI h2 48 4 = nI b.length := by rw [s48]; exact c1.2.1
      have out : Ex g mX0_align 193 [vR 48, vL (eC a), vU, vL (eC b), vU, vI (nI i), vI (nI j), vI (nI done.length), y1, y2, y3] [] h2 (0, 0) Q := by
        refine rX0_align_193 ?_
        simp only [bX0_align_193, run, Nat.reduceAdd, lg, st1, st2, lkill, lset, fvv, sfv, kind3, cat1, retI, retA, List.length_cons, List.length_nil, true_and, and_true, or_true, true_or, qX0_align]
        rw [← ec] at cr ⊢
        exact hq h2 ek er ((kp1.mono fun a _ q => ⟨q.1, by omega⟩).tr (kp2.mono fun a _ q => ⟨by omega, q.2⟩)) cr
      refine rX0_align_16 ?_
      simp only [bX0_align_16, run, Nat.reduceAdd, lg, st1, st2, lkill, lset, fvv, sfv, kind3, cat1, retI, retA, List.length_cons, List.length_nil, true_and, and_true, or_true, true_or, qX0_align, x1, f1, f2, show nI i < nI a.length ↔ False from ⟨nI_nlt (by omega) (by omega), False.elim⟩, show nI b.length ≤ nI j ↔ True from ⟨fun _ => trivial, fun _ => nI_le (by omega) (by omega)⟩, not_true_eq_false, not_false_eq_true, false_implies, true_and, and_true, tti]
      exact ⟨fun _ => out, fun _ => out⟩
    intro n
    induction n with
    | zero =>
      intro i j h2 done hn hi hj hd ek er kp2 cr ec y1 y2 y3
      exact ended i j h2 done (by omega) (by omega) hd ek er kp2 cr (by rw [ec]; simp [clf]) y1 y2 y3
    | succ n ih =>
      intro i j h2 done hn hi hj hd ek er kp2 cr ec y1 y2 y3
      by_cases hm : i < a.length ∨ j < b.length
      · have hx2 : AlS h2 := hx.eq ek er
        have hx3 := hx2
        obtain ⟨x1, x2, x3, x4, x5, x6, x7, x8, x9, x10, x11, x12, x13⟩ := hx3
        have wl : ∀ {c t n}, zK h c = (t, n) → t ≠ 0 → c < zN h1 := fun q1 q2 => Nat.lt_of_lt_of_le (w.lt q1 q2) kp1.1
        have s48 := (kp2.2.2 48 (wl hx.1 (by decide)) (by decide)).1
        have s49 := (kp2.2.2 49 (wl hx.2.2.2.2.2.2.2.1 (by decide)) (by decide)).1
        have s50 := (kp2.2.2 50 (wl hx.2.2.2.2.2.2.2.2.1 (by decide)) (by decide)).1
        have hc2 : AlC h2 a b := by unfold AlC; rw [s48, s49, s50]; exact c1
        have hc3 := hc2
        obtain ⟨f1, f2, f3, f4⟩ := hc3
        have hr2 : ∀ i j, i ≤ a.length → j ≤ b.length → Rest h2 f a b i j := fun i j q1 q2 => by
          unfold Rest
          rw [(kp2.2.2 (52 + i) (wl (hx.2.2.2.2.2.2.2.2.2.2.2.2 i (by omega)).2 (by decide)) (fun q => by omega)).1]
          exact rest1 i j q1 q2
        have hs2 : Sn h2 f := hs.kp w (((kp1.mono fun a _ q => (⟨q.1, by omega⟩ : 48 ≤ a ∧ a ≤ 64)).tr (kp2.mono fun a _ q => ⟨by omega, q.2⟩))) fun a q1 q2 q3 => by omega
        have g46 : Ex g mX0_align 46 [vR 48, vL (eC a), vU, vL (eC b), vU, vI (nI i), vI (nI j), vI (nI done.length), y1, y2, y3] [vI (nI j), vI (nI i), vR 48] h2 (0, 0) Q → Ex g mX0_align 16 [vR 48, vL (eC a), vU, vL (eC b), vU, vI (nI i), vI (nI j), vI (nI done.length), y1, y2, y3] [] h2 (0, 0) Q := by
          intro k46
          have c20 : (20 : Int32) ≤ nI done.length ↔ False := ⟨nI_ge (b := 20) (by omega) (by omega), False.elim⟩
          by_cases hi2 : i < a.length
          · refine rX0_align_16 ?_
            simp only [bX0_align_16, run, Nat.reduceAdd, lg, st1, st2, lkill, lset, fvv, sfv, kind3, cat1, retI, retA, List.length_cons, List.length_nil, true_and, and_true, or_true, true_or, qX0_align, x1, f1, f2, c20, show nI i < nI a.length ↔ True from ⟨fun _ => trivial, fun _ => nI_lt hi2 (by omega)⟩, not_true_eq_false, not_false_eq_true, false_implies, true_and, and_true, tti]
            refine rX0_align_41 ?_
            simp only [bX0_align_41, run, Nat.reduceAdd, lg, st1, st2, lkill, lset, fvv, sfv, kind3, cat1, retI, retA, List.length_cons, List.length_nil, true_and, and_true, or_true, true_or, qX0_align]
            exact k46
          · refine rX0_align_16 ?_
            simp only [bX0_align_16, run, Nat.reduceAdd, lg, st1, st2, lkill, lset, fvv, sfv, kind3, cat1, retI, retA, List.length_cons, List.length_nil, true_and, and_true, or_true, true_or, qX0_align, x1, f1, f2, c20, show nI i < nI a.length ↔ False from ⟨nI_nlt (by omega) (by omega), False.elim⟩, show nI b.length ≤ nI j ↔ False from ⟨nI_ge (by omega) (by omega), False.elim⟩, not_true_eq_false, not_false_eq_true, false_implies, true_and, and_true, tti]
            exact k46
        refine g46 ?_
        have q48 : ∀ k v, zI (sI h2 63 k v) 48 = zI h2 48 := fun k v => zI_n (by decide)
        have q50 : ∀ k v, zI (sI h2 63 k v) 50 = zI h2 50 := fun k v => zI_n (by decide)
        have nxt : ∀ U V i' j', clf f (n + 1) (a.drop i) (b.drop j) = (U, V) :: clf f n (a.drop i') (b.drop j') → i' ≤ a.length → j' ≤ b.length → i + j < i' + j' → ∀ y1 y2 y3, Ex g mX0_align 16 [vR 48, vL (eC a), vU, vL (eC b), vU, vI (nI i'), vI (nI j'), vI (nI (done.length + 1)), y1, y2, y3] [] (sI (sI h2 63 done.length (nI U)) 64 done.length (nI V)) (0, 0) Q := by
          intro U V i' j' e1 e2 e3 e4 y1 y2 y3
          have z := ih i' j' (sI (sI h2 63 done.length (nI U)) 64 done.length (nI V)) (done ++ [(U, V)]) (by omega) e2 e3 (by simp; omega) ek er ((kp2.tr (Kp.sI ⟨by omega, by omega⟩)).tr (Kp.sI ⟨by omega, by omega⟩)) cr.add (by rw [ec, e1]; simp) y1 y2 y3
          rw [List.length_append] at z
          exact z
        have kd : (nI done.length).toNatClampNeg = done.length := nI_clamp (by omega)
        have ki : (nI i).toNatClampNeg = i := nI_clamp (by omega)
        have kj : (nI j).toNatClampNeg = j := nI_clamp (by omega)
        have vd : vp_in (nI done.length) 20 := vp_in_nI (by omega) (by omega)
        refine sX0_align_46 x1 (e_takesPair hs2 hx2 hc2 ha hb hi hj hr2 ?_)
        simp only [cont, Option.toList, List.cons_append, List.nil_append]
        by_cases hP : i < a.length ∧ j < b.length ∧ cst f (a.getD i 0) (b.getD j 0) + LL f a b (i + 1) (j + 1) = LL f a b i j
        · have z := nxt _ _ _ _ (clf_p (n := n) hP.1 hP.2.1 hP.2.2) (by omega) (by omega) (by omega)
          refine rX0_align_49 ?_
          simp only [bX0_align_49, run, Nat.reduceAdd, lg, st1, st2, lkill, lset, fvv, sfv, kind3, cat1, retI, retA, List.length_cons, List.length_nil, true_and, and_true, or_true, true_or, qX0_align, if_pos hP, show ¬ (1 : Int32) = 0 by decide, not_true_eq_false, not_false_eq_true, false_implies, true_and, and_true, tti]
          refine rX0_align_67 ?_
          simp only [bX0_align_67, run, Nat.reduceAdd, lg, st1, st2, lkill, lset, fvv, sfv, kind3, cat1, retI, retA, List.length_cons, List.length_nil, true_and, and_true, or_true, true_or, qX0_align, show ¬ (1 : Int32) = 0 by decide, not_true_eq_false, not_false_eq_true, false_implies, true_and, and_true, tti]
          refine rX0_align_84 ?_
          simp only [bX0_align_84, run, Nat.reduceAdd, lg, st1, st2, lkill, lset, fvv, sfv, kind3, cat1, retI, retA, List.length_cons, List.length_nil, true_and, and_true, or_true, true_or, qX0_align, show ¬ (1 : Int32) = 0 by decide, show nI a.length ≤ nI i ↔ False from ⟨nI_ge hP.1 (by omega), False.elim⟩, show nI b.length ≤ nI j ↔ False from ⟨nI_ge hP.2.1 (by omega), False.elim⟩, f3 i hP.1, f4 j hP.2.1, x1, x3, x4, x6, x7, x8, x9, x11, x12, f1, f2, kL, kI, kD, kR, rL, rI, rD, iL, iD, iR, lI, lD, lR, q48, q50, kd, ki, kj, nI_1, not_true_eq_false, not_false_eq_true, false_implies, true_and, and_true, tti]
          exact ⟨vp_in_nI (by omega) (by omega), vd, vp_in_nI (by omega) (by omega), vd, z _ _ _⟩
        · refine rX0_align_49 ?_
          simp only [bX0_align_49, run, Nat.reduceAdd, lg, st1, st2, lkill, lset, fvv, sfv, kind3, cat1, retI, retA, List.length_cons, List.length_nil, true_and, and_true, or_true, true_or, qX0_align, if_neg hP, not_true_eq_false, not_false_eq_true, false_implies, true_and, and_true, tti]
          refine sX0_align_61 x1 (e_takesFirst hx2 hc2 ha hb hi hj hr2 ?_)
          simp only [cont, Option.toList, List.cons_append, List.nil_append]
          by_cases hF : i < a.length ∧ 4 + LL f a b (i + 1) j = LL f a b i j
          · have z := nxt _ _ _ _ (clf_f (n := n) hF.1 hj hP hF.2) (by omega) (by omega) (by omega)
            refine rX0_align_64 ?_
            simp only [bX0_align_64, run, Nat.reduceAdd, lg, st1, st2, lkill, lset, fvv, sfv, kind3, cat1, retI, retA, List.length_cons, List.length_nil, true_and, and_true, or_true, true_or, qX0_align, if_pos hF, show ¬ (1 : Int32) = 0 by decide, not_true_eq_false, not_false_eq_true, false_implies, true_and, and_true, tti]
            refine rX0_align_88 ?_
            simp only [bX0_align_88, run, Nat.reduceAdd, lg, st1, st2, lkill, lset, fvv, sfv, kind3, cat1, retI, retA, List.length_cons, List.length_nil, true_and, and_true, or_true, true_or, qX0_align, show ¬ (1 : Int32) = 0 by decide, show nI a.length ≤ nI i ↔ False from ⟨nI_ge hF.1 (by omega), False.elim⟩, f3 i hF.1, x1, x3, x4, x6, x7, x8, x9, x11, x12, f1, f2, kL, kI, kD, kR, rL, rI, rD, iL, iD, iR, lI, lD, lR, q48, q50, kd, ki, kj, nI_1, not_true_eq_false, not_false_eq_true, false_implies, true_and, and_true, tti]
            refine ⟨vp_in_nI (by omega) (by omega), vd, ?_⟩
            refine rX0_align_154 ?_
            simp only [bX0_align_154, run, Nat.reduceAdd, lg, st1, st2, lkill, lset, fvv, sfv, kind3, cat1, retI, retA, List.length_cons, List.length_nil, true_and, and_true, or_true, true_or, qX0_align, show ¬ (1 : Int32) = 0 by decide, x1, x3, x4, x6, x7, x8, x9, x11, x12, f1, f2, kL, kI, kD, kR, rL, rI, rD, iL, iD, iR, lI, lD, lR, q48, q50, kd, ki, kj, nI_1, not_true_eq_false, not_false_eq_true, false_implies, true_and, and_true, tti]
            refine ⟨vd, ?_⟩
            refine rX0_align_183 ?_
            simp only [bX0_align_183, run, Nat.reduceAdd, lg, st1, st2, lkill, lset, fvv, sfv, kind3, cat1, retI, retA, List.length_cons, List.length_nil, true_and, and_true, or_true, true_or, qX0_align, Int32.add_zero, nI_1]
            exact z _ _ _
          · obtain ⟨hj2, e9⟩ := clf_n (n := n) hi hj hm hP hF
            have z := nxt _ _ _ _ e9 (by omega) (by omega) (by omega)
            refine rX0_align_64 ?_
            simp only [bX0_align_64, run, Nat.reduceAdd, lg, st1, st2, lkill, lset, fvv, sfv, kind3, cat1, retI, retA, List.length_cons, List.length_nil, true_and, and_true, or_true, true_or, qX0_align, if_neg hF, not_true_eq_false, not_false_eq_true, false_implies, true_and, and_true, tti]
            refine rX0_align_71 ?_
            simp only [bX0_align_71, run, Nat.reduceAdd, lg, st1, st2, lkill, lset, fvv, sfv, kind3, cat1, retI, retA, List.length_cons, List.length_nil, true_and, and_true, or_true, true_or, qX0_align, x1, x3, x4, x6, x7, x8, x9, x11, x12, f1, f2, kL, kI, kD, kR, rL, rI, rD, iL, iD, iR, lI, lD, lR, q48, q50, kd, ki, kj, nI_1, not_true_eq_false, not_false_eq_true, false_implies, true_and, and_true, tti]
            refine rX0_align_121 ?_
            simp only [bX0_align_121, run, Nat.reduceAdd, lg, st1, st2, lkill, lset, fvv, sfv, kind3, cat1, retI, retA, List.length_cons, List.length_nil, true_and, and_true, or_true, true_or, qX0_align, show ¬ (1 : Int32) = 0 by decide, show nI b.length ≤ nI j ↔ False from ⟨nI_ge hj2 (by omega), False.elim⟩, f4 j hj2, x1, x3, x4, x6, x7, x8, x9, x11, x12, f1, f2, kL, kI, kD, kR, rL, rI, rD, iL, iD, iR, lI, lD, lR, q48, q50, kd, ki, kj, nI_1, not_true_eq_false, not_false_eq_true, false_implies, true_and, and_true, tti]
            refine ⟨vd, vp_in_nI (by omega) (by omega), vd, ?_⟩
            refine rX0_align_168 ?_
            simp only [bX0_align_168, run, Nat.reduceAdd, lg, st1, st2, lkill, lset, fvv, sfv, kind3, cat1, retI, retA, List.length_cons, List.length_nil, true_and, and_true, or_true, true_or, qX0_align, show ¬ (1 : Int32) = 0 by decide, Int32.add_zero, nI_1, not_true_eq_false, not_false_eq_true, false_implies, true_and, and_true, tti]
            exact z _ _ _
      · exact ended i j h2 done (by omega) (by omega) hd ek er kp2 cr (by rw [ec, List.drop_eq_nil_of_le (by omega), List.drop_eq_nil_of_le (by omega), clf_nil]; simp) y1 y2 y3
  refine rX0_align_6 ?_
  simp only [bX0_align_6, run, Nat.reduceAdd, lg, st1, st2, lkill, lset, fvv, sfv, kind3, cat1, retI, retA, List.length_cons, List.length_nil, true_and, and_true, or_true, true_or, qX0_align]
  refine lp _ 0 0 h1 [] (Nat.le_refl _) (Nat.zero_le _) (Nat.zero_le _) (Nat.le_refl _) k1 r1 Kp.rf (fun k hk => absurd hk (Nat.not_lt_zero _)) rfl _ _ _
