theorem CoM.kp {h h' : AH} {cs : List (Nat × Nat)} {S : Nat → Prop} (w : Wf h) (ms : ModS h) (k : Kp S h h') (h0 : ¬ S 99) (h1 : ¬ S 117) (h2 : ¬ S 118) (x : CoM h cs) : CoM h' cs := by
  unfold CoM
  rw [(k.2.2 99 (ms.lt w (by decide)) h0).1, (k.2.2 117 (ms.lt w (by decide)) h1).1, (k.2.2 118 (ms.lt w (by decide)) h2).1]
  exact x
theorem e_malignV {g : Gp} {f : Nat → Nat} {a b : List Nat} {h : AH} {Q : PQ} (ms : ModS h) (sn : SnM h f) (ha : Wok a) (hb : Wok b)
    (hq : ∀ h', Mq h h' → zI h' 99 0 = zI h 99 0 → zI h' 121 = zI h 121 → CoM h' (cls f a b) → Q (.inl (some (vI (nI (lc f a b))))) h') : Ev g mX10_align [vR 99, vL (wM a), vL (wM b)] h Q := by
  have ha1 := ha.1
  have hb1 := hb.1
  refine nX10_align ?_
  refine Ex.wf (fun w => ?_)
  refine rX10_align_0 ?_
  simp only [bX10_align_0, run, Nat.reduceAdd, lg, st1, st2, lkill, lset, fvv, sfv, kind3, cat1, retI, retA, List.length_cons, List.length_nil, true_and, and_true, or_true, true_or, qX10_align, ms.1, ms.R24, not_true_eq_false, not_false_eq_true, false_implies, true_and, and_true, tti]
  refine sX10_align_5 (e_mspread ms.K119 ha fun h1 k1 r1 kp1 z1 => ?_)
  simp only [cont, Option.toList, List.cons_append, List.nil_append]
  refine rX10_align_8 ?_
  simp only [bX10_align_8, run, Nat.reduceAdd, lg, st1, st2, lkill, lset, fvv, sfv, kind3, cat1, retI, retA, List.length_cons, List.length_nil, true_and, and_true, or_true, true_or, qX10_align, k1, r1, ms.1, ms.R25, not_true_eq_false, not_false_eq_true, false_implies, true_and, and_true, tti]
  refine sX10_align_15 (e_mspread (by rw [k1]; exact ms.K120) hb fun h2 k2 r2 kp2 z2 => ?_)
  simp only [cont, Option.toList, List.cons_append, List.nil_append]
  have l1 : ∀ c, c ≤ 121 → c < zN h1 := fun c q => Nat.lt_of_lt_of_le (ms.lt w q) kp1.1
  have l2 : ∀ c, c ≤ 121 → c < zN h2 := fun c q => Nat.lt_of_lt_of_le (l1 c q) kp2.1
  have ek2 : zK h2 = zK h := k2.trans k1
  have er2 : zR h2 = zR h := r2.trans r1
  have kp02 : Kp (fun c => 116 ≤ c ∧ c ≤ 120) h h2 := (kp1.mono fun a _ e => ⟨by omega, by omega⟩).tr (kp2.mono fun a _ e => ⟨by omega, by omega⟩)
  have o2 : ∀ i, i < a.length → zI h2 119 i = nI (a.getD i 0) := fun i hi => by
    rw [(kp2.2.2 119 (l1 _ (by decide)) (by decide)).1]
    exact z1 i hi
  have t2 : ∀ i, i < b.length → zI h2 120 i = nI (b.getD i 0) := z2
  have i99 : zI h2 99 = zI h 99 := (kp02.2.2 99 (ms.lt w (by decide)) (by decide)).1
  clear z1 z2
  have lle : ∀ i j, LL f a b i j ≤ 80 := fun i j => LL_le ha1 hb1
  -- what the steps below leave as it is
  have St : ∀ {h5}, zK h5 = zK h → zR h5 = zR h → Kp (fun c => c = 116 ∨ c = 99 ∨ c = 117 ∨ c = 118) h2 h5 → ModS h5 ∧ SnM h5 f ∧ (∀ i, i < a.length → zI h5 119 i = nI (a.getD i 0)) ∧ (∀ i, i < b.length → zI h5 120 i = nI (b.getD i 0)) := fun {h5} e1 e2 kp => by
    refine ⟨⟨by rw [e1]; exact ms.1, by rw [e2]; exact ms.2.1, by rw [e1]; exact ms.2.2⟩, fun s hs => ?_, fun i hi => ?_, fun i hi => ?_⟩
    · rw [(kp.2.2 100 (l2 _ (by decide)) (by decide)).1, (kp02.2.2 100 (ms.lt w (by decide)) (by decide)).1]
      exact sn s hs
    · rw [(kp.2.2 119 (l2 _ (by decide)) (by decide)).1]; exact o2 i hi
    · rw [(kp.2.2 120 (l2 _ (by decide)) (by decide)).1]; exact t2 i hi
  have cols : ∀ h5, zK h5 = zK h → zR h5 = zR h → Kp (fun c => c = 116) h2 h5 → (∀ i j, i ≤ a.length → j ≤ b.length → RestM h5 f a b i j) → ∀ v7 v8 v9 v10 : AV, Ex g mX10_align 191 [vR 99, vL (wM a), vU, vL (wM b), vU, vI (nI a.length), vI (nI b.length), v7, v8, v9, v10] [] h5 (0, 0) Q := by
    intro h5 ek er kp rs v7 v8 v9 v10
    have l5 : ∀ c, c ≤ 121 → c < zN h5 := fun c q => Nat.lt_of_lt_of_le (l2 c q) kp.1
    have lp : ∀ n i j h6 done, (a.length - i) + (b.length - j) ≤ n → i ≤ a.length → j ≤ b.length → done.length ≤ i + j → zK h6 = zK h → zR h6 = zR h → Kp (fun c => c = 99 ∨ c = 117 ∨ c = 118) h5 h6 → (∀ k, k ≠ 21 → zI h6 99 k = zI h 99 k) → CoM h6 done → cls f a b = done ++ clf f n (a.drop i) (b.drop j) → ∀ y1 y2 : AV, Ex g mX10_align 202 [vR 99, vL (wM a), vU, vL (wM b), vU, vI (nI a.length), vI (nI b.length), vI (nI i), vI (nI j), y1, y2] [] h6 (0, 0) Q := by
      have ended : ∀ i j h6 done, i = a.length → j = b.length → zK h6 = zK h → zR h6 = zR h → Kp (fun c => c = 99 ∨ c = 117 ∨ c = 118) h5 h6 → (∀ k, k ≠ 21 → zI h6 99 k = zI h 99 k) → CoM h6 done → cls f a b = done → ∀ y1 y2 : AV, Ex g mX10_align 202 [vR 99, vL (wM a), vU, vL (wM b), vU, vI (nI a.length), vI (nI b.length), vI (nI i), vI (nI j), y1, y2] [] h6 (0, 0) Q := by
        intro i j h6 done i1 j1 ek6 er6 kp6 e99 cr ec y1 y2
        obtain ⟨ms6, -⟩ := St ek6 er6 ((kp.mono fun a _ q => Or.inl q).tr (kp6.mono fun a _ q => Or.inr q))
        have r0 := rs 0 0 (Nat.zero_le _) (Nat.zero_le _)
        unfold RestM at r0
        rw [show LL f a b 0 0 = lc f a b from rfl, ← (kp6.2.2 116 (l5 _ (by decide)) (by decide)).1] at r0
        rw [← ec] at cr
        have z := hq h6 ⟨((kp02.tr (kp.mono fun a _ q => ⟨by omega, by omega⟩)).mono fun a _ q => Or.inr ⟨q.1, by omega⟩).tr (kp6.mono fun a _ q => by omega), fun k _ q => e99 k q, by rw [er6]⟩ (e99 0 (by decide)) (by rw [(kp6.2.2 121 (l5 _ (by decide)) (by decide)).1, (kp.2.2 121 (l2 _ (by decide)) (by decide)).1, (kp02.2.2 121 (ms.lt w (by decide)) (by decide)).1]) cr
        generalize lc f a b = v at r0 z
        refine rX10_align_202 ?_
        simp only [bX10_align_202, run, Nat.reduceAdd, lg, st1, st2, lkill, lset, fvv, sfv, kind3, cat1, retI, retA, List.length_cons, List.length_nil, true_and, and_true, or_true, true_or, qX10_align, i1, j1, show nI a.length < nI a.length ↔ False from ⟨nI_nlt (Nat.le_refl _) (by omega), False.elim⟩, show nI b.length ≤ nI b.length ↔ True from ⟨fun _ => trivial, fun _ => nI_le (Nat.le_refl _) (by omega)⟩, not_true_eq_false, not_false_eq_true, false_implies, true_and, and_true, tti]
        refine rX10_align_423 ?_
        simp only [bX10_align_423, run, Nat.reduceAdd, lg, st1, st2, lkill, lset, fvv, sfv, kind3, cat1, retI, retA, List.length_cons, List.length_nil, true_and, and_true, or_true, true_or, qX10_align, ms6.1, ms6.R20, ms6.K116, show (0 : Int32).toNatClampNeg = 0 by decide, r0, not_true_eq_false, not_false_eq_true, false_implies, true_and, and_true, tti]
        exact ⟨vp_0 (by decide) (by decide), z⟩
      intro n
      induction n with
      | zero =>
        intro i j h6 done hn hi hj hd ek6 er6 kp6 e99 cr ec y1 y2
        exact ended i j h6 done (by omega) (by omega) ek6 er6 kp6 e99 cr (by rw [ec]; simp [clf]) y1 y2
      | succ n ih =>
        intro i j h6 done hn hi hj hd ek6 er6 kp6 e99 cr ec y1 y2
        by_cases hm : i < a.length ∨ j < b.length
        · obtain ⟨ms6, sn6, o6, t6⟩ := St ek6 er6 ((kp.mono fun a _ q => Or.inl q).tr (kp6.mono fun a _ q => Or.inr q))
          have rs6 : ∀ i j, i ≤ a.length → j ≤ b.length → RestM h6 f a b i j := fun i j q1 q2 => by
            unfold RestM
            rw [(kp6.2.2 116 (l5 _ (by decide)) (by decide)).1]
            exact rs i j q1 q2
          have nxt : ∀ U V i' j', clf f (n + 1) (a.drop i) (b.drop j) = (U, V) :: clf f n (a.drop i') (b.drop j') → i' ≤ a.length → j' ≤ b.length → i + j < i' + j' → ∀ y1 y2 : Int32, Ex g mX10_align 202 [vR 99, vL (wM a), vU, vL (wM b), vU, vI (nI a.length), vI (nI b.length), vI (nI i'), vI (nI j'), vI y1, vI y2] [] (sI (sI (sI h6 117 done.length (nI U)) 99 21 (nI (done.length + 1))) 118 done.length (nI V)) (0, 0) Q := by
            intro U V i' j' e1 e2 e3 e4 y1 y2
            refine ih i' j' (sI (sI (sI h6 117 done.length (nI U)) 99 21 (nI (done.length + 1))) 118 done.length (nI V)) (done ++ [(U, V)]) (by omega) e2 e3 (by simp; omega) ek6 er6 (((kp6.tr (Kp.sI (Or.inr (Or.inl rfl)))).tr (Kp.sI (Or.inl rfl))).tr (Kp.sI (Or.inr (Or.inr rfl)))) (fun k q => ?_) cr.add (by rw [ec, e1]; simp) _ _
            rw [zI_n (by decide), zI_sI, up1_n _ _ q, zI_n (by decide)]
            exact e99 k q
          refine e_mstep (x := a.getD i 0) (y := b.getD j 0) (A := LL f a b (i + 1) j) (C := LL f a b (i + 1) (j + 1)) (R := LL f a b i j) (K := cst f (a.getD i 0) (b.getD j 0)) (c := done.length) ms6 ha1 hb1 hi hj (by omega) hm cr.1 (rs6 i j hi hj) (fun q => rs6 _ _ (by omega) hj) (fun q1 q2 => rs6 _ _ (by omega) (by omega)) (lle _ _) (lle _ _) (lle _ _) cst_le (fun q => o6 i q) (fun q => t6 j q) (fun q1 q2 Q hq => e_mcostOf ms6 sn6 (ha.at i) (hb.at j) hq) (fun hP => ?_) (fun hP hF => ?_) (fun hP hF => ?_) y1 y2
          · exact nxt _ _ _ _ (clf_p (n := n) hP.1 hP.2.1 hP.2.2) (by omega) (by omega) (by omega)
          · exact nxt _ _ _ _ (clf_f (n := n) hF.1 hj hP hF.2) (by omega) (by omega) (by omega)
          · obtain ⟨hj2, e9⟩ := clf_n (n := n) hi hj hm hP hF
            exact ⟨hj2, nxt _ _ _ _ e9 (by omega) (by omega) (by omega)⟩
        · exact ended i j h6 done (by omega) (by omega) ek6 er6 kp6 e99 cr (by rw [ec, List.drop_eq_nil_of_le (by omega), List.drop_eq_nil_of_le (by omega), clf_nil]; simp) y1 y2
    have z := lp (a.length + b.length) 0 0 (sI h5 99 21 0) [] (by omega) (Nat.zero_le _) (Nat.zero_le _) (Nat.le_refl _) ek er (Kp.sI (Or.inl rfl)) (fun k q => by rw [zI_sI, up1_n _ _ q, (kp.2.2 99 (l2 _ (by decide)) (by decide)).1, i99]) ⟨by rw [zI_sI, up1_s]; rfl, fun k hk => absurd hk (Nat.not_lt_zero _)⟩ rfl v9 v10
    refine rX10_align_191 ?_
    simp only [bX10_align_191, run, Nat.reduceAdd, lg, st1, st2, lkill, lset, fvv, sfv, kind3, cat1, retI, retA, List.length_cons, List.length_nil, true_and, and_true, or_true, true_or, qX10_align, ek, ms.1, not_true_eq_false, not_false_eq_true, false_implies, true_and, and_true, tti]
    exact z
  have inner : ∀ i, i ≤ a.length → (∀ h5, zK h5 = zK h → zR h5 = zR h → Kp (fun c => c = 116) h2 h5 → (∀ i' j, i ≤ i' → i' ≤ a.length → j ≤ b.length → RestM h5 f a b i' j) → ∀ v8 y z, Ex g mX10_align 24 [vR 99, vL (wM a), vU, vL (wM b), vU, vI (nI a.length), vI (nI b.length), vI (bI i), v8, y, z] [] h5 (0, 0) Q) →
      ∀ k h5, k ≤ b.length + 1 → zK h5 = zK h → zR h5 = zR h → Kp (fun c => c = 116) h2 h5 → (∀ i' j, i + 1 ≤ i' → i' ≤ a.length → j ≤ b.length → RestM h5 f a b i' j) → (∀ j, k ≤ j → j ≤ b.length → RestM h5 f a b i j) → ∀ y z, Ex g mX10_align 33 [vR 99, vL (wM a), vU, vL (wM b), vU, vI (nI a.length), vI (nI b.length), vI (nI i), vI (bI k), y, z] [] h5 (0, 0) Q := by
    intro i hi out k
    induction k with
    | zero =>
      intro h5 _ ek er kp r1 r2 y z
      have e6 : nI i + -1 = bI i := by rw [← bI_s i]; exact bI_dec i
      refine rX10_align_33 ?_
      simp only [bX10_align_33, run, Nat.reduceAdd, lg, st1, st2, lkill, lset, fvv, sfv, kind3, cat1, retI, retA, List.length_cons, List.length_nil, true_and, and_true, or_true, true_or, qX10_align, show bI 0 < 0 ↔ True from ⟨fun _ => trivial, fun _ => by decide⟩, not_true_eq_false, not_false_eq_true, false_implies, true_and, and_true, tti]
      refine rX10_align_185 ?_
      simp only [bX10_align_185, run, Nat.reduceAdd, lg, st1, st2, lkill, lset, fvv, sfv, kind3, cat1, retI, retA, List.length_cons, List.length_nil, true_and, and_true, or_true, true_or, qX10_align, e6]
      refine out h5 ek er kp (fun i' j q1 q2 q3 => ?_) _ _ _
      by_cases e : i' = i
      · rw [e]; exact r2 j (Nat.zero_le _) q3
      · exact r1 i' j (by omega) q2 q3
    | succ j ih =>
      intro h5 hk ek er kp r1 r2 y z
      obtain ⟨ms5, sn5, o5, t5⟩ := St ek er (kp.mono fun a _ q => Or.inl q)
      refine e_mcell (x := a.getD i 0) (y := b.getD j 0) (A := LL f a b (i + 1) j) (B := LL f a b i (j + 1)) (C := LL f a b (i + 1) (j + 1)) (K := cst f (a.getD i 0) (b.getD j 0)) (V := LL f a b i j) ms5 ha1 hb1 hi (by omega) (fun q => r1 _ _ (Nat.le_refl _) (by omega) (by omega)) (fun q => r2 _ (Nat.le_refl _) (by omega)) (fun q1 q2 => r1 _ _ (Nat.le_refl _) (by omega) (by omega)) (lle _ _) (lle _ _) (lle _ _) cst_le (lle _ _) (fun q => o5 i q) (fun q => t5 j q) (fun q1 q2 Q hq => e_mcostOf ms5 sn5 (ha.at i) (hb.at j) hq) (fun q1 q2 => LL_ab q1 q2) (fun q1 q2 => by rw [q2]; exact LL_a q1) (fun q1 q2 => by rw [q1]; exact LL_b q2) (fun q1 q2 => by rw [q1, q2]; exact LL_00) (fun y z => ?_) y z
      refine ih (sI h5 116 (i * 11 + j) (nI (LL f a b i j))) (by omega) ek er (kp.tr (Kp.sI rfl)) (fun i' j' q1 q2 q3 => ?_) (fun j' q1 q2 => ?_) y z
      · unfold RestM
        rw [zI_sI, up1_n _ _ (by omega)]
        exact r1 i' j' q1 q2 q3
      · unfold RestM
        rw [zI_sI]
        by_cases e : j' = j
        · rw [e, up1_s]
        · rw [up1_n _ _ (by omega)]
          exact r2 j' (by omega) q2
  have outer : ∀ n h5, n ≤ a.length + 1 → zK h5 = zK h → zR h5 = zR h → Kp (fun c => c = 116) h2 h5 → (∀ i' j, n ≤ i' → i' ≤ a.length → j ≤ b.length → RestM h5 f a b i' j) → ∀ v8 y z, Ex g mX10_align 24 [vR 99, vL (wM a), vU, vL (wM b), vU, vI (nI a.length), vI (nI b.length), vI (bI n), v8, y, z] [] h5 (0, 0) Q := by
    intro n
    induction n with
    | zero =>
      intro h5 _ ek er kp r v8 y z
      refine rX10_align_24 ?_
      simp only [bX10_align_24, run, Nat.reduceAdd, lg, st1, st2, lkill, lset, fvv, sfv, kind3, cat1, retI, retA, List.length_cons, List.length_nil, true_and, and_true, or_true, true_or, qX10_align, show bI 0 < 0 ↔ True from ⟨fun _ => trivial, fun _ => by decide⟩, not_true_eq_false, not_false_eq_true, false_implies, true_and, and_true, tti]
      exact cols h5 ek er kp (fun i j q1 q2 => r i j (Nat.zero_le _) q1 q2) _ _ _ _
    | succ n ih =>
      intro h5 hn ek er kp r v8 y z
      rw [bI_s]
      refine rX10_align_24 ?_
      simp only [bX10_align_24, run, Nat.reduceAdd, lg, st1, st2, lkill, lset, fvv, sfv, kind3, cat1, retI, retA, List.length_cons, List.length_nil, true_and, and_true, or_true, true_or, qX10_align, show nI n < 0 ↔ False from ⟨nI_nlt (a := n) (b := 0) (by omega) (by omega), False.elim⟩, not_true_eq_false, not_false_eq_true, false_implies, true_and, and_true, tti]
      have z9 := inner n (by omega) (fun h6 ek6 er6 kp6 r6 v8 y z => ih h6 (by omega) ek6 er6 kp6 r6 v8 y z) (b.length + 1) h5 (Nat.le_refl _) ek er kp r (fun j q1 q2 => by omega) y z
      rw [bI_s] at z9
      exact z9
  refine rX10_align_18 ?_
  simp only [bX10_align_18, run, Nat.reduceAdd, lg, st1, st2, lkill, lset, fvv, sfv, kind3, cat1, retI, retA, List.length_cons, List.length_nil, true_and, and_true, or_true, true_or, qX10_align]
  have z9 := outer (a.length + 1) h2 (Nat.le_refl _) ek2 er2 Kp.rf (fun i' j q1 q2 => by omega) vU vU vU
  rw [bI_s] at z9
  exact z9
theorem e_malign {g : Gp} {f : Nat → Nat} {a b : List Nat} {h : AH} {Q : PQ} (ms : ModS h) (sn : SnM h f) (ha : Wok a) (hb : Wok b)
    (hq : ∀ h', Mq h h' → zI h' 99 0 = zI h 99 0 → CoM h' (cls f a b) → Q (.inl (some (vI (nI (lc f a b))))) h') : Ev g mX10_align [vR 99, vL (wM a), vL (wM b)] h Q := e_malignV ms sn ha hb fun h' y e _ co => hq h' y e co
