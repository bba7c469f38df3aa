/-! ===== the model supposes: rows of words, unlike words, swaps ===== -/
def TwR (h : AH) (c : Nat) (f : Nat → Nat) (gv : Nat → List Nat) (D : HD) : Prop := zK h c = (3, D.1 * 12) ∧ ∀ l, l < D.1 → ∀ m, m < 12 → zL h c (l * 12 + m) = wM (cel D f gv m l).1
theorem TwR.kp {h h' : AH} {c : Nat} {S : Nat → Prop} {f : Nat → Nat} {gv : Nat → List Nat} {D : HD} (w : Wf h) (k : Kp S h h') (hS : ¬ S c) (x : TwR h c f gv D) : TwR h' c f gv D := by
  refine ⟨k.kd w x.1 (by decide), fun l hl m hm => ?_⟩
  rw [(k.2.2 c (w.lt x.1 (by decide)) hS).2.1]
  exact x.2 l hl m hm
theorem e_mtold {g : Gp} {h : AH} {Q : PQ} {f : Nat → Nat} {gv : Nat → List Nat} {D : HD} (md : MdB h f gv D)
    (hq : ∀ h' c, zN h ≤ c → 122 ≤ c → Kp (fun a => 113 ≤ a ∧ a ≤ 115) h h' → SvR h' f gv D → TwR h' c f gv D → Q (.inl (some (vR c))) h') : Ev g mX10_told [vR 99] h Q := by
  obtain ⟨hD0, hD1, -⟩ := md.2.2.2.2
  refine nX10_told ?_
  refine Ex.wf (fun w => ?_)
  refine rX10_told_0 ?_
  simp only [bX10_told_0, run, Nat.reduceAdd, lg, st1, st2, lkill, lset, fvv, sfv, kind3, cat1, retI, retA, List.length_cons, List.length_nil, true_and, and_true, or_true, true_or, qX10_told]
  refine sX10_told_1 md.1.1 (e_msolve md fun h2 kp sv => ?_)
  simp only [cont, Option.toList, List.cons_append, List.nil_append]
  refine Ex.wf (fun w2 => ?_)
  have ms2 := (Ms.of w md.1 kp fun a q => by omega).s w md.1
  have md2 := md.ms w (Ms.of w md.1 kp fun a q => by omega)
  have e4 := md2.2.2.2.1.1
  have big : 122 ≤ zN h2 := ms2.lt w2 (Nat.le_refl _)
  have big0 : zN h ≤ zN h2 := kp.1
  generalize hn : D.1 = n at e4 hD0 hD1
  have kN : (nI (n * 12)).toNatClampNeg = n * 12 := nI_clamp (by omega)
  have e12 : nI n * 12 = nI (n * 12) := by rw [show (12 : Int32) = nI 12 from rfl, pk_mul]
  generalize hc : zN h2 = c at big big0
  have k9 : zK (nw h2 (3, n * 12)) 99 = (1, 10) := by rw [zK_nwE, if_neg (by omega)]; exact ms2.1
  have r17 : zR (nw h2 (3, n * 12)) 99 17 = 113 := by rw [zR_nwE, if_neg (by omega)]; exact ms2.R17
  have kc : zK (nw h2 (3, n * 12)) c = (3, n * 12) := by rw [← hc]; exact zK_nw
  have k13 : zK (nw h2 (3, n * 12)) 113 = (3, 120) := by rw [zK_nwE, if_neg (by omega)]; exact ms2.K113
  refine rX10_told_4 ?_
  simp only [bX10_told_4, run, Nat.reduceAdd, lg, st1, st2, lkill, lset, fvv, sfv, kind3, cat1, retI, retA, List.length_cons, List.length_nil, true_and, and_true, or_true, true_or, qX10_told, ms2.1, e4, e12, kN, hc, k9, r17, kc, not_true_eq_false, not_false_eq_true, false_implies, true_and, and_true, tti]
  refine ⟨fun q => nI_nlt (a := n * 12) (b := 0) (by omega) (by omega) q, by omega, by decide, by show 0 + n * 12 ≤ 120; omega, ?_⟩
  refine ⟨⟨by decide, by decide⟩, ?_⟩
  refine x_copyl (M := mX10_told) (pc := 23) (st := []) (sp := 0) (dp := 0) (n := nI (n * 12)) (i := 239) (n0 := 120) (n1 := n * 12) ⟨lg_mem (by decide +kernel) rfl, lg_mem (by decide +kernel) rfl, lg_mem (by decide +kernel) rfl, lg_mem (by decide +kernel) rfl⟩ k13 kc (by decide) (by decide) (fun q => nI_nlt (a := n * 12) (b := 0) (by omega) (by omega) q) (by rw [kN, show (0 : Int32).toNatClampNeg = 0 by decide]; omega) (by rw [kN, show (0 : Int32).toNatClampNeg = 0 by decide]; omega) (by decide) (Nat.le_of_ble_eq_true rfl) (by decide +kernel) ?_
  rw [kN, show (0 : Int32).toNatClampNeg = 0 by decide]
  refine rX10_told_26 ?_
  simp only [bX10_told_26, run, Nat.reduceAdd, lg, st1, st2, lkill, lset, fvv, sfv, kind3, cat1, retI, retA, List.length_cons, List.length_nil, true_and, and_true, or_true, true_or, qX10_told]
  have kp2 : Kp (fun a => 113 ≤ a ∧ a ≤ 115) h (rwL (nw h2 (3, n * 12)) c (va_cpy (zL (nw h2 (3, n * 12)) 113) (zL (nw h2 (3, n * 12)) c) 0 0 (n * 12))) := by
    refine ⟨Nat.le_trans kp.1 (by show zN h2 ≤ zN h2 + 1; omega), fun a ha => ?_, fun a ha hs => ?_⟩
    · show zK (nw h2 (3, n * 12)) a = zK h a
      rw [zK_nwE, if_neg (by omega)]
      exact kp.2.1 a ha
    · exact ((kp.2.2 a ha hs).tr (Sm.nw (by omega))).tr (Sm.rwL (by omega))
  refine hq _ c big0 big kp2 (fun l hl m hm => ?_) ⟨by rw [hn]; exact kc, fun l hl m hm => ?_⟩
  · have z := sv l hl m hm
    refine ⟨?_, ?_, ?_⟩
    · rw [show zL (rwL (nw h2 (3, n * 12)) c (va_cpy (zL (nw h2 (3, n * 12)) 113) (zL (nw h2 (3, n * 12)) c) 0 0 (n * 12))) 113 = zL (nw h2 (3, n * 12)) 113 from up1_n _ _ (by omega), zL_nwE, if_neg (by omega)]
      exact z.1
    · show zI (nw h2 (3, n * 12)) 114 _ = _
      rw [zI_nwE, if_neg (by omega)]
      exact z.2.1
    · show zI (nw h2 (3, n * 12)) 115 _ = _
      rw [zI_nwE, if_neg (by omega)]
      exact z.2.2
  · rw [zL_rwL]
    unfold va_cpy
    rw [if_pos (by omega), zL_nwE, if_neg (by omega), show 0 + (l * 12 + m - 0) = l * 12 + m by omega]
    exact (sv l hl m hm).1
theorem sm_add {g : Nat → Nat} {a : Nat} : ∀ b, sm g (a + b) = sm g a + sm (fun j => g (a + j)) b
  | 0 => rfl
  | b + 1 => by rw [← Nat.add_assoc, sm, sm, sm_add b]; omega
theorem sm_0 {g : Nat → Nat} : ∀ n, (∀ i, i < n → g i = 0) → sm g n = 0
  | 0, _ => rfl
  | n + 1, h => by rw [sm, sm_0 n fun i hi => h i (by omega), h n (by omega)]
theorem cdf_sm {A B : Nat → List Nat} : ∀ n, cdf A B n = sm (fun m => if A m = B m then 0 else 1) n
  | 0 => rfl
  | n + 1 => by
    rw [cdf, sm, cdf_sm n]
    split <;> rfl
/-- whether word k is unlike, of one language (L) or all (0), for one meaning (M) or all (0) -/
def unq (A B : Nat → Nat → List Nat) (L M k : Nat) : Nat := if (L = 0 ∨ k / 12 + 1 = L) ∧ (M = 0 ∨ k % 12 + 1 = M) ∧ ¬ A (k / 12) (k % 12) = B (k / 12) (k % 12) then 1 else 0
theorem unq_j {A B : Nat → Nat → List Nat} {L M n j : Nat} (hj : j < 12) : unq A B L M (n * 12 + j) = if (L = 0 ∨ n + 1 = L) ∧ (M = 0 ∨ j + 1 = M) ∧ ¬ A n j = B n j then 1 else 0 := by
  unfold unq
  rw [show (n * 12 + j) / 12 = n by omega, show (n * 12 + j) % 12 = j by omega]
theorem un_all {A B : Nat → Nat → List Nat} : ∀ n, sm (unq A B 0 0) (n * 12) = cds A B n
  | 0 => rfl
  | n + 1 => by
    rw [Nat.add_mul, sm_add, un_all n, cds, cdf_sm]
    congr 1
    refine sm_c 12 fun j hj => ?_
    rw [unq_j hj]
    by_cases e : A n j = B n j
    · rw [if_neg (fun q => q.2.2 e), if_pos e]
    · rw [if_pos ⟨Or.inl rfl, Or.inl rfl, e⟩, if_neg e]
theorem un_lang {A B : Nat → Nat → List Nat} {l : Nat} : ∀ n, sm (unq A B (l + 1) 0) (n * 12) = if l < n then cdf (A l) (B l) 12 else 0
  | 0 => rfl
  | n + 1 => by
    rw [Nat.add_mul, sm_add, un_lang n]
    by_cases e : l = n
    · subst e
      rw [if_neg (Nat.lt_irrefl _), if_pos (by omega), cdf_sm, Nat.zero_add]
      refine sm_c 12 fun j hj => ?_
      rw [unq_j hj]
      by_cases e : A l j = B l j
      · rw [if_neg (fun q => q.2.2 e), if_pos e]
      · rw [if_pos ⟨Or.inr rfl, Or.inl rfl, e⟩, if_neg e]
    · rw [sm_0 12 (fun j hj => by rw [unq_j hj, if_neg (fun q => by rcases q.1 with q1 | q1 <;> omega)]), Nat.add_zero]
      by_cases h : l < n
      · rw [if_pos h, if_pos (by omega)]
      · rw [if_neg h, if_neg (by omega)]
theorem un_mean {A B : Nat → Nat → List Nat} {m : Nat} (hm : m < 12) : ∀ n, sm (unq A B 0 (m + 1)) (n * 12) = cdf (fun l => A l m) (fun l => B l m) n
  | 0 => rfl
  | n + 1 => by
    rw [Nat.add_mul, sm_add, un_mean hm n, cdf]
    have e1 : sm (fun j => unq A B 0 (m + 1) (n * 12 + j)) 12 = sm (fun j => if j = m then (if A n m = B n m then 0 else 1) else 0) 12 := by
      refine sm_c 12 fun j hj => ?_
      rw [unq_j hj]
      by_cases e : j = m
      · subst e
        rw [if_pos rfl]
        by_cases e2 : A n j = B n j
        · rw [if_neg (fun q => q.2.2 e2), if_pos e2]
        · rw [if_pos ⟨Or.inl rfl, Or.inr rfl, e2⟩, if_neg e2]
      · rw [if_neg (fun q => by rcases q.2.1 with q1 | q1 <;> omega), if_neg e]
    have e2 : ∀ x k, sm (fun j => if j = m then x else 0) k = if m < k then x else 0 := by
      intro x k
      induction k with
      | zero => rfl
      | succ k ih =>
        rw [sm, ih]
        by_cases e : k = m
        · subst e; rw [if_neg (Nat.lt_irrefl _), if_pos rfl, if_pos (by omega), Nat.zero_add]
        · rw [if_neg e]
          by_cases h : m < k
          · rw [if_pos h, if_pos (by omega), Nat.add_zero]
          · rw [if_neg h, if_neg (by omega)]
    rw [e1, e2, if_pos hm]
    split <;> rfl
theorem e_munlike {g : Gp} {c n L M : Nat} {A B : Nat → Nat → List Nat} {h : AH} {Q : PQ} (ms : ModS h) (hn : n ≤ 10) (hc : zK h c = (3, n * 12)) (a : ∀ l, l < n → ∀ m, m < 12 → Wok (A l m) ∧ zL h c (l * 12 + m) = wM (A l m)) (b : ∀ l, l < n → ∀ m, m < 12 → Wok (B l m) ∧ zL h 113 (l * 12 + m) = wM (B l m)) (hL : L ≤ 10) (hM : M ≤ 12)
    (hq : Q (.inl (some (vI (nI (sm (unq A B L M) (n * 12)))))) h) : Ev g mX10_unlike [vR 99, vR c, vI (bI L), vI (bI M)] h Q := by
  refine nX10_unlike ?_
  have lp : ∀ d k, k + d = n * 12 → ∀ z : AV, Ex g mX10_unlike 6 [vR 99, vR c, vI (bI L), vI (bI M), vI (nI (sm (unq A B L M) k)), vI (nI k), z] [] h (0, 0) Q := by
    intro d
    induction d with
    | zero =>
      intro k hk z
      have e9 : k = n * 12 := by omega
      subst e9
      refine rX10_unlike_6 ?_
      simp only [bX10_unlike_6, run, Nat.reduceAdd, lg, st1, st2, lkill, lset, fvv, sfv, kind3, cat1, retI, retA, List.length_cons, List.length_nil, true_and, and_true, or_true, true_or, qX10_unlike, hc, show nI (n * 12) ≤ nI (n * 12) ↔ True from ⟨fun _ => trivial, fun _ => nI_le (Nat.le_refl _) (by omega)⟩, not_true_eq_false, not_false_eq_true, false_implies, true_and, and_true, tti]
      refine ⟨⟨by decide, by decide⟩, ?_⟩
      refine rX10_unlike_84 ?_
      simp only [bX10_unlike_84, run, Nat.reduceAdd, lg, st1, st2, lkill, lset, fvv, sfv, kind3, cat1, retI, retA, List.length_cons, List.length_nil, true_and, and_true, or_true, true_or, qX10_unlike]
      exact hq
    | succ d ih =>
      intro k hk z
      have nx := ih (k + 1) (by omega)
      rw [sm] at nx
      generalize sm (unq A B L M) k = s at nx
      have kk : (nI k).toNatClampNeg = k := nI_clamp (by omega)
      have vk := vp_in_nI (show k < n * 12 by omega) (by omega : n * 12 < 2 ^ 31)
      have vk2 := vp_in_nI (show k < 120 by omega) (by omega : 120 < 2 ^ 31)
      have qa := a (k / 12) (by omega) (k % 12) (by omega)
      have qb := b (k / 12) (by omega) (k % 12) (by omega)
      rw [show k / 12 * 12 + k % 12 = k by omega] at qa qb
      have key := wM_inj qa.1 qb.1
      have nle : nI (n * 12) ≤ nI k ↔ False := ⟨nI_ge (by omega) (by omega), False.elim⟩
      have n12 : ¬ (12 : Int32) = 0 := by decide
      have ed : nI k / 12 = nI (k / 12) := pk_div (d := 12) (by omega) (by decide) (by decide)
      have er : nI k - nI (k / 12) * 12 = nI (k % 12) := by rw [← ed]; exact pk_rem (d := 12) (by omega) (by decide) (by decide)
      have bL : bI L = -1 ↔ L = 0 := by rw [← bI_0]; exact bI_inj (by omega) (by omega)
      have bM : bI M = -1 ↔ M = 0 := by rw [← bI_0]; exact bI_inj (by omega) (by omega)
      have cL : nI (k / 12) = bI L ↔ k / 12 + 1 = L := by rw [← bI_s]; exact bI_inj (by omega) (by omega)
      have cM : nI (k % 12) = bI M ↔ k % 12 + 1 = M := by rw [← bI_s]; exact bI_inj (by omega) (by omega)
      have f74 : unq A B L M k = 0 → ∀ z, Ex g mX10_unlike 74 [vR 99, vR c, vI (bI L), vI (bI M), vI (nI s), vI (nI k), z] [vI (nI s)] h (0, 0) Q := fun e z => by
        rw [e, Nat.add_zero] at nx
        refine rX10_unlike_74 ?_
        simp only [bX10_unlike_74, run, Nat.reduceAdd, lg, st1, st2, lkill, lset, fvv, sfv, kind3, cat1, retI, retA, List.length_cons, List.length_nil, true_and, and_true, or_true, true_or, qX10_unlike, show nI s + 0 = nI s from nI_add s 0, nI_1, not_true_eq_false, not_false_eq_true, false_implies, true_and, and_true, tti]
        exact nx _
      have f45 : ¬ ((L = 0 ∨ k / 12 + 1 = L) ∧ (M = 0 ∨ k % 12 + 1 = M)) → ∀ z, Ex g mX10_unlike 45 [vR 99, vR c, vI (bI L), vI (bI M), vI (nI s), vI (nI k), z] [] h (0, 0) Q := fun e z => by
        have z9 := f74 (if_neg (fun q => e ⟨q.1, q.2.1⟩)) (vI 0)
        refine rX10_unlike_45 ?_
        simp only [bX10_unlike_45, run, Nat.reduceAdd, lg, st1, st2, lkill, lset, fvv, sfv, kind3, cat1, retI, retA, List.length_cons, List.length_nil, true_and, and_true, or_true, true_or, qX10_unlike, not_true_eq_false, not_false_eq_true, false_implies, true_and, and_true, tti]
        exact z9
      have f41 : (L = 0 ∨ k / 12 + 1 = L) → (M = 0 ∨ k % 12 + 1 = M) → ∀ z, Ex g mX10_unlike 41 [vR 99, vR c, vI (bI L), vI (bI M), vI (nI s), vI (nI k), z] [] h (0, 0) Q := fun e1 e2 z => by
        by_cases e : A (k / 12) (k % 12) = B (k / 12) (k % 12)
        · have z9 := f74 (if_neg (fun q => q.2.2 e)) (vI 1)
          refine rX10_unlike_41 ?_
          simp only [bX10_unlike_41, run, Nat.reduceAdd, lg, st1, st2, lkill, lset, fvv, sfv, kind3, cat1, retI, retA, List.length_cons, List.length_nil, true_and, and_true, or_true, true_or, qX10_unlike, show ¬ (1 : Int32) = 0 by decide, hc, kk, ms.1, ms.R17, ms.K113, qa.2, qb.2, lg_cmp_eq, show wM (A (k / 12) (k % 12)) = wM (B (k / 12) (k % 12)) ↔ True from ⟨fun _ => trivial, fun _ => key.mpr e⟩, not_true_eq_false, not_false_eq_true, false_implies, true_and, and_true, tti]
          exact ⟨vk, vk2, z9⟩
        · rw [show unq A B L M k = 1 from if_pos ⟨e1, e2, e⟩] at nx
          refine rX10_unlike_41 ?_
          simp only [bX10_unlike_41, run, Nat.reduceAdd, lg, st1, st2, lkill, lset, fvv, sfv, kind3, cat1, retI, retA, List.length_cons, List.length_nil, true_and, and_true, or_true, true_or, qX10_unlike, show ¬ (1 : Int32) = 0 by decide, hc, kk, ms.1, ms.R17, ms.K113, qa.2, qb.2, lg_cmp_eq, show wM (A (k / 12) (k % 12)) = wM (B (k / 12) (k % 12)) ↔ False from ⟨fun q => e (key.mp q), False.elim⟩, nI_1, not_true_eq_false, not_false_eq_true, false_implies, true_and, and_true, tti]
          exact ⟨vk, vk2, nx _⟩
      have f27 : (L = 0 ∨ k / 12 + 1 = L) → ∀ z, Ex g mX10_unlike 27 [vR 99, vR c, vI (bI L), vI (bI M), vI (nI s), vI (nI k), z] [] h (0, 0) Q := fun e1 z => by
        by_cases m0 : M = 0
        · have z9 := f41 e1 (Or.inl m0) z
          refine rX10_unlike_27 ?_
          simp only [bX10_unlike_27, run, Nat.reduceAdd, lg, st1, st2, lkill, lset, fvv, sfv, kind3, cat1, retI, retA, List.length_cons, List.length_nil, true_and, and_true, or_true, true_or, qX10_unlike, show bI M = -1 ↔ True from ⟨fun _ => trivial, fun _ => bM.mpr m0⟩, not_true_eq_false, not_false_eq_true, false_implies, true_and, and_true, tti]
          exact z9
        · by_cases m1 : k % 12 + 1 = M
          · by_cases e : A (k / 12) (k % 12) = B (k / 12) (k % 12)
            · have z9 := f74 (if_neg (fun q => q.2.2 e)) (vI 1)
              refine rX10_unlike_27 ?_
              simp only [bX10_unlike_27, run, Nat.reduceAdd, lg, st1, st2, lkill, lset, fvv, sfv, kind3, cat1, retI, retA, List.length_cons, List.length_nil, true_and, and_true, or_true, true_or, qX10_unlike, show bI M = -1 ↔ False from ⟨fun q => m0 (bM.mp q), False.elim⟩, ne_eq, n12, ed, er, show nI (k % 12) = bI M ↔ True from ⟨fun _ => trivial, fun _ => cM.mpr m1⟩, show ¬ (1 : Int32) = 0 by decide, hc, kk, ms.1, ms.R17, ms.K113, qa.2, qb.2, lg_cmp_eq, show wM (A (k / 12) (k % 12)) = wM (B (k / 12) (k % 12)) ↔ True from ⟨fun _ => trivial, fun _ => key.mpr e⟩, not_true_eq_false, not_false_eq_true, false_implies, true_and, and_true, tti]
              exact ⟨vk, vk2, z9⟩
            · rw [show unq A B L M k = 1 from if_pos ⟨e1, Or.inr m1, e⟩] at nx
              refine rX10_unlike_27 ?_
              simp only [bX10_unlike_27, run, Nat.reduceAdd, lg, st1, st2, lkill, lset, fvv, sfv, kind3, cat1, retI, retA, List.length_cons, List.length_nil, true_and, and_true, or_true, true_or, qX10_unlike, show bI M = -1 ↔ False from ⟨fun q => m0 (bM.mp q), False.elim⟩, ne_eq, n12, ed, er, show nI (k % 12) = bI M ↔ True from ⟨fun _ => trivial, fun _ => cM.mpr m1⟩, show ¬ (1 : Int32) = 0 by decide, hc, kk, ms.1, ms.R17, ms.K113, qa.2, qb.2, lg_cmp_eq, show wM (A (k / 12) (k % 12)) = wM (B (k / 12) (k % 12)) ↔ False from ⟨fun q => e (key.mp q), False.elim⟩, nI_1, not_true_eq_false, not_false_eq_true, false_implies, true_and, and_true, tti]
              exact ⟨vk, vk2, nx _⟩
          · have z9 := f45 (fun q => q.2.elim m0 m1) z
            refine rX10_unlike_27 ?_
            simp only [bX10_unlike_27, run, Nat.reduceAdd, lg, st1, st2, lkill, lset, fvv, sfv, kind3, cat1, retI, retA, List.length_cons, List.length_nil, true_and, and_true, or_true, true_or, qX10_unlike, show bI M = -1 ↔ False from ⟨fun q => m0 (bM.mp q), False.elim⟩, ne_eq, n12, ed, er, show nI (k % 12) = bI M ↔ False from ⟨fun q => m1 (cM.mp q), False.elim⟩, not_true_eq_false, not_false_eq_true, false_implies, true_and, and_true, tti]
            exact z9
      by_cases l0 : L = 0
      · have z9 := f27 (Or.inl l0) z
        refine rX10_unlike_6 ?_
        simp only [bX10_unlike_6, run, Nat.reduceAdd, lg, st1, st2, lkill, lset, fvv, sfv, kind3, cat1, retI, retA, List.length_cons, List.length_nil, true_and, and_true, or_true, true_or, qX10_unlike, hc, nle, show bI L = -1 ↔ True from ⟨fun _ => trivial, fun _ => bL.mpr l0⟩, not_true_eq_false, not_false_eq_true, false_implies, true_and, and_true, tti]
        exact ⟨⟨by decide, by decide⟩, z9⟩
      · by_cases l1 : k / 12 + 1 = L
        · by_cases m0 : M = 0
          · have z9 := f41 (Or.inr l1) (Or.inl m0) z
            refine rX10_unlike_6 ?_
            simp only [bX10_unlike_6, run, Nat.reduceAdd, lg, st1, st2, lkill, lset, fvv, sfv, kind3, cat1, retI, retA, List.length_cons, List.length_nil, true_and, and_true, or_true, true_or, qX10_unlike, hc, nle, show bI L = -1 ↔ False from ⟨fun q => l0 (bL.mp q), False.elim⟩, ne_eq, n12, ed, show nI (k / 12) = bI L ↔ True from ⟨fun _ => trivial, fun _ => cL.mpr l1⟩, show bI M = -1 ↔ True from ⟨fun _ => trivial, fun _ => bM.mpr m0⟩, not_true_eq_false, not_false_eq_true, false_implies, true_and, and_true, tti]
            exact ⟨⟨by decide, by decide⟩, z9⟩
          · by_cases m1 : k % 12 + 1 = M
            · by_cases e : A (k / 12) (k % 12) = B (k / 12) (k % 12)
              · have z9 := f74 (if_neg (fun q => q.2.2 e)) (vI 1)
                refine rX10_unlike_6 ?_
                simp only [bX10_unlike_6, run, Nat.reduceAdd, lg, st1, st2, lkill, lset, fvv, sfv, kind3, cat1, retI, retA, List.length_cons, List.length_nil, true_and, and_true, or_true, true_or, qX10_unlike, hc, nle, show bI L = -1 ↔ False from ⟨fun q => l0 (bL.mp q), False.elim⟩, ne_eq, n12, ed, show nI (k / 12) = bI L ↔ True from ⟨fun _ => trivial, fun _ => cL.mpr l1⟩, show bI M = -1 ↔ False from ⟨fun q => m0 (bM.mp q), False.elim⟩, er, show nI (k % 12) = bI M ↔ True from ⟨fun _ => trivial, fun _ => cM.mpr m1⟩, show ¬ (1 : Int32) = 0 by decide, hc, kk, ms.1, ms.R17, ms.K113, qa.2, qb.2, lg_cmp_eq, show wM (A (k / 12) (k % 12)) = wM (B (k / 12) (k % 12)) ↔ True from ⟨fun _ => trivial, fun _ => key.mpr e⟩, not_true_eq_false, not_false_eq_true, false_implies, true_and, and_true, tti]
                exact ⟨⟨by decide, by decide⟩, vk, vk2, z9⟩
              · rw [show unq A B L M k = 1 from if_pos ⟨Or.inr l1, Or.inr m1, e⟩] at nx
                refine rX10_unlike_6 ?_
                simp only [bX10_unlike_6, run, Nat.reduceAdd, lg, st1, st2, lkill, lset, fvv, sfv, kind3, cat1, retI, retA, List.length_cons, List.length_nil, true_and, and_true, or_true, true_or, qX10_unlike, hc, nle, show bI L = -1 ↔ False from ⟨fun q => l0 (bL.mp q), False.elim⟩, ne_eq, n12, ed, show nI (k / 12) = bI L ↔ True from ⟨fun _ => trivial, fun _ => cL.mpr l1⟩, show bI M = -1 ↔ False from ⟨fun q => m0 (bM.mp q), False.elim⟩, er, show nI (k % 12) = bI M ↔ True from ⟨fun _ => trivial, fun _ => cM.mpr m1⟩, show ¬ (1 : Int32) = 0 by decide, hc, kk, ms.1, ms.R17, ms.K113, qa.2, qb.2, lg_cmp_eq, show wM (A (k / 12) (k % 12)) = wM (B (k / 12) (k % 12)) ↔ False from ⟨fun q => e (key.mp q), False.elim⟩, nI_1, not_true_eq_false, not_false_eq_true, false_implies, true_and, and_true, tti]
                exact ⟨⟨by decide, by decide⟩, vk, vk2, nx _⟩
            · have z9 := f45 (fun q => q.2.elim m0 m1) z
              refine rX10_unlike_6 ?_
              simp only [bX10_unlike_6, run, Nat.reduceAdd, lg, st1, st2, lkill, lset, fvv, sfv, kind3, cat1, retI, retA, List.length_cons, List.length_nil, true_and, and_true, or_true, true_or, qX10_unlike, hc, nle, show bI L = -1 ↔ False from ⟨fun q => l0 (bL.mp q), False.elim⟩, ne_eq, n12, ed, show nI (k / 12) = bI L ↔ True from ⟨fun _ => trivial, fun _ => cL.mpr l1⟩, show bI M = -1 ↔ False from ⟨fun q => m0 (bM.mp q), False.elim⟩, er, show nI (k % 12) = bI M ↔ False from ⟨fun q => m1 (cM.mp q), False.elim⟩, not_true_eq_false, not_false_eq_true, false_implies, true_and, and_true, tti]
              exact ⟨⟨by decide, by decide⟩, z9⟩
        · have z9 := f45 (fun q => q.1.elim l0 l1) z
          refine rX10_unlike_6 ?_
          simp only [bX10_unlike_6, run, Nat.reduceAdd, lg, st1, st2, lkill, lset, fvv, sfv, kind3, cat1, retI, retA, List.length_cons, List.length_nil, true_and, and_true, or_true, true_or, qX10_unlike, hc, nle, show bI L = -1 ↔ False from ⟨fun q => l0 (bL.mp q), False.elim⟩, ne_eq, n12, ed, show nI (k / 12) = bI L ↔ False from ⟨fun q => l1 (cL.mp q), False.elim⟩, not_true_eq_false, not_false_eq_true, false_implies, true_and, and_true, tti]
          exact ⟨⟨by decide, by decide⟩, z9⟩
  refine rX10_unlike_0 ?_
  simp only [bX10_unlike_0, run, Nat.reduceAdd, lg, st1, st2, lkill, lset, fvv, sfv, kind3, cat1, retI, retA, List.length_cons, List.length_nil, true_and, and_true, or_true, true_or, qX10_unlike]
  exact lp (n * 12) 0 (Nat.zero_add _) _
