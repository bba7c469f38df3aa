/-! ===== the model swaps laws ===== -/
def swp2 (F : Nat → Int32) (i j : Nat) : Nat → Int32 := fun k => if k = j then F i else if k = i then F j else F k
theorem e_mswap {g : Gp} {r i j N : Nat} {h : AH} {Q : PQ} (hr : zK h r = (2, N)) (hN : N < 2 ^ 31) (hi : i < N) (hj : j < N) (hij : i ≠ j) (hq : ∀ h', zK h' = zK h → zR h' = zR h → zL h' = zL h → zD h' = zD h → zN h' = zN h → (∀ a, a ≠ r → zI h' a = zI h a) → zI h' r = swp2 (zI h r) i j → Q (.inl none) h') : Ev g mX10_swap [vR r, vI (nI i), vI (nI j)] h Q := by
  refine nX10_swap ?_
  have ki : (nI i).toNatClampNeg = i := nI_clamp (by omega)
  have kj : (nI j).toNatClampNeg = j := nI_clamp (by omega)
  have vi := vp_in_nI hi hN
  have vj := vp_in_nI hj hN
  refine rX10_swap_0 ?_
  simp only [bX10_swap_0, run, Nat.reduceAdd, lg, st1, st2, lkill, lset, fvv, sfv, kind3, cat1, retI, retA, List.length_cons, List.length_nil, true_and, and_true, or_true, true_or, qX10_swap, kL, kI, kD, kR, rL, rI, rD, iL, iD, iR, lI, lD, lR, hr, ki, kj, not_true_eq_false, not_false_eq_true, false_implies, true_and, and_true, tti]
  refine ⟨vi, vj, vi, vj, hq _ rfl rfl rfl rfl rfl (fun a ha => ?_) ?_⟩
  · rw [zI_n ha, zI_n ha]
  · funext k
    rw [zI_sI, zI_sI]
    unfold swp2
    by_cases e : k = j
    · rw [e, up1_s, if_pos rfl]
    · rw [up1_n _ _ e, if_neg e]
      by_cases e2 : k = i
      · rw [e2, up1_s, if_pos rfl]
      · rw [up1_n _ _ e2, if_neg e2]
/-- what a swap of laws does -/
def Sw (h h' : AH) (i j : Nat) : Prop := zK h' = zK h ∧ zR h' = zR h ∧ zL h' = zL h ∧ zD h' = zD h ∧ zN h' = zN h ∧ (∀ a, (a < 104 ∨ 107 < a) → zI h' a = zI h a) ∧ ∀ a, 104 ≤ a → a ≤ 107 → zI h' a = swp2 (zI h a) i j
theorem e_mswapLaws {g : Gp} {i j : Nat} {h : AH} {Q : PQ} (ms : ModS h) (hi : i < 80) (hj : j < 80) (hij : i ≠ j) (hq : ∀ h', Sw h h' i j → Q (.inl none) h') : Ev g mX10_swapLaws [vR 99, vI (nI i), vI (nI j)] h Q := by
  refine nX10_swapLaws ?_
  refine rX10_swapLaws_0 ?_
  simp only [bX10_swapLaws_0, run, Nat.reduceAdd, lg, st1, st2, lkill, lset, fvv, sfv, kind3, cat1, retI, retA, List.length_cons, List.length_nil, true_and, and_true, or_true, true_or, qX10_swapLaws, ms.1, ms.R7, not_true_eq_false, not_false_eq_true, false_implies, true_and, and_true, tti]
  refine sX10_swapLaws_6 (e_mswap ms.K104 (by decide) hi hj hij fun h1 a1 b1 c1 d1 n1 o1 s1 => ?_)
  simp only [cont, Option.toList, List.cons_append, List.nil_append]
  refine rX10_swapLaws_9 ?_
  simp only [bX10_swapLaws_9, run, Nat.reduceAdd, lg, st1, st2, lkill, lset, fvv, sfv, kind3, cat1, retI, retA, List.length_cons, List.length_nil, true_and, and_true, or_true, true_or, qX10_swapLaws, a1, b1, ms.1, ms.R8, not_true_eq_false, not_false_eq_true, false_implies, true_and, and_true, tti]
  refine sX10_swapLaws_15 (e_mswap (by rw [a1]; exact ms.K105) (by decide) hi hj hij fun h2 a2 b2 c2 d2 n2 o2 s2 => ?_)
  simp only [cont, Option.toList, List.cons_append, List.nil_append]
  refine rX10_swapLaws_18 ?_
  simp only [bX10_swapLaws_18, run, Nat.reduceAdd, lg, st1, st2, lkill, lset, fvv, sfv, kind3, cat1, retI, retA, List.length_cons, List.length_nil, true_and, and_true, or_true, true_or, qX10_swapLaws, a2, b2, a1, b1, ms.1, ms.R9, not_true_eq_false, not_false_eq_true, false_implies, true_and, and_true, tti]
  refine sX10_swapLaws_24 (e_mswap (by rw [a2, a1]; exact ms.K106) (by decide) hi hj hij fun h3 a3 b3 c3 d3 n3 o3 s3 => ?_)
  simp only [cont, Option.toList, List.cons_append, List.nil_append]
  refine rX10_swapLaws_27 ?_
  simp only [bX10_swapLaws_27, run, Nat.reduceAdd, lg, st1, st2, lkill, lset, fvv, sfv, kind3, cat1, retI, retA, List.length_cons, List.length_nil, true_and, and_true, or_true, true_or, qX10_swapLaws, a3, b3, a2, b2, a1, b1, ms.1, ms.R10, not_true_eq_false, not_false_eq_true, false_implies, true_and, and_true, tti]
  refine sX10_swapLaws_33 (e_mswap (by rw [a3, a2, a1]; exact ms.K107) (by decide) hi hj hij fun h4 a4 b4 c4 d4 n4 o4 s4 => ?_)
  simp only [cont, Option.toList, List.cons_append, List.nil_append]
  refine rX10_swapLaws_36 ?_
  simp only [bX10_swapLaws_36, run, Nat.reduceAdd, lg, st1, st2, lkill, lset, fvv, sfv, kind3, cat1, retI, retA, List.length_cons, List.length_nil, true_and, and_true, or_true, true_or, qX10_swapLaws]
  refine hq h4 ⟨by rw [a4, a3, a2, a1], by rw [b4, b3, b2, b1], by rw [c4, c3, c2, c1], by rw [d4, d3, d2, d1], by rw [n4, n3, n2, n1], fun a ha => ?_, fun a h1 h2 => ?_⟩
  · rw [o4 a (by omega), o3 a (by omega), o2 a (by omega), o1 a (by omega)]
  · have : a = 104 ∨ a = 105 ∨ a = 106 ∨ a = 107 := by omega
    rcases this with rfl | rfl | rfl | rfl
    · rw [o4 _ (by decide), o3 _ (by decide), o2 _ (by decide), s1]
    · rw [o4 _ (by decide), o3 _ (by decide), s2, o1 _ (by decide)]
    · rw [o4 _ (by decide), s3, o2 _ (by decide), o1 _ (by decide)]
    · rw [s4, o3 _ (by decide), o2 _ (by decide), o1 _ (by decide)]
/-- entry i has been moved to place k -/
def rotf (F : Nat → Int32) (i k : Nat) : Nat → Int32 := fun p => if i ≤ p ∧ p < k then F (p + 1) else if p = k then F i else F p
theorem rotf_0 {F : Nat → Int32} {i : Nat} : rotf F i i = F := by
  funext p
  unfold rotf
  rw [if_neg (by omega)]
  split
  · next e => rw [e]
  · rfl
theorem rotf_s {F : Nat → Int32} {i k : Nat} (h : i ≤ k) : swp2 (rotf F i k) k (k + 1) = rotf F i (k + 1) := by
  funext p
  unfold swp2 rotf
  by_cases e1 : p = k + 1
  · subst e1
    rw [if_pos rfl, if_neg (by omega), if_pos rfl, if_neg (by omega), if_pos rfl]
  · rw [if_neg e1]
    by_cases e2 : p = k
    · subst e2
      rw [if_pos rfl, if_neg (by omega), if_neg (by omega), if_pos (by omega)]
    · rw [if_neg e2, if_neg e2, if_neg e1]
      by_cases e3 : i ≤ p ∧ p < k
      · rw [if_pos e3, if_pos (by omega)]
      · rw [if_neg e3, if_neg (by omega)]
theorem rotf_b {F : Nat → Int32} {i k : Nat} (h : i ≤ k) : swp2 (rotf F i (k + 1)) k (k + 1) = rotf F i k := by
  funext p
  rw [← rotf_s h]
  unfold swp2
  by_cases e1 : p = k + 1
  · subst e1
    rw [if_pos rfl, if_neg (by omega), if_pos rfl]
  · rw [if_neg e1]
    by_cases e2 : p = k
    · subst e2
      rw [if_pos rfl, if_pos rfl]
    · rw [if_neg e2, if_neg e1, if_neg e2]
/-- from h: the words have been told, law i of the laws has come to place k, how many laws each has is L -/
def Rt (h h' : AH) (i k : Nat) (L : Nat → Int32) : Prop := Kp (fun a => a = 99 ∨ (103 ≤ a ∧ a ≤ 107) ∨ (113 ≤ a ∧ a ≤ 115)) h h' ∧ (∀ j, zI h' 99 j = zI h 99 j) ∧ zR h' 99 = zR h 99 ∧ (∀ a, 104 ≤ a → a ≤ 107 → zI h' a = rotf (zI h a) i k) ∧ zI h' 103 = L ∧ ∀ a, 103 ≤ a → a ≤ 107 → zL h' a = zL h a ∧ zD h' a = zD h a ∧ zR h' a = zR h a
theorem Rt.back {h h' : AH} {i : Nat} (x : Rt h h' i i (zI h 103)) : Ms h h' := by
  obtain ⟨k, f9, r9, ro, l3, o⟩ := x
  refine ⟨⟨k.1, k.2.1, fun a ha hs => ?_⟩, fun j _ _ => f9 j, r9⟩
  by_cases e : 103 ≤ a ∧ a ≤ 107
  · obtain ⟨o1, o2, o3⟩ := o a e.1 e.2
    refine ⟨?_, o1, o2, o3⟩
    by_cases e3 : a = 103
    · rw [e3]; exact l3
    · rw [ro a (by omega) e.2, rotf_0]
  · exact k.2.2 a ha (by omega)
theorem Rt.sw {h h1 h2 : AH} {i k : Nat} {L : Nat → Int32} (x : Rt h h1 i k L) (y : Sw h1 h2 k (k + 1)) (hk : i ≤ k) : Rt h h2 i (k + 1) L := by
  obtain ⟨x1, f9, r9, ro, l3, o⟩ := x
  obtain ⟨a1, a2, a3, a4, a5, a6, a7⟩ := y
  refine ⟨⟨by rw [a5]; exact x1.1, fun a ha => by rw [a1]; exact x1.2.1 a ha, fun a ha hs => ?_⟩, fun j => by rw [a6 99 (by omega)]; exact f9 j, by rw [a2]; exact r9, fun a q1 q2 => by rw [a7 a q1 q2, ro a q1 q2, rotf_s hk], by rw [a6 103 (by omega)]; exact l3, fun a q1 q2 => by rw [a3, a4, a2]; exact o a q1 q2⟩
  obtain ⟨s1, s2, s3, s4⟩ := x1.2.2 a ha hs
  exact ⟨by rw [a6 a (by omega)]; exact s1, by rw [a3]; exact s2, by rw [a4]; exact s3, by rw [a2]; exact s4⟩
theorem Rt.sb {h h1 h2 : AH} {i k : Nat} {L : Nat → Int32} (x : Rt h h1 i (k + 1) L) (y : Sw h1 h2 k (k + 1)) (hk : i ≤ k) : Rt h h2 i k L := by
  obtain ⟨x1, f9, r9, ro, l3, o⟩ := x
  obtain ⟨a1, a2, a3, a4, a5, a6, a7⟩ := y
  refine ⟨⟨by rw [a5]; exact x1.1, fun a ha => by rw [a1]; exact x1.2.1 a ha, fun a ha hs => ?_⟩, fun j => by rw [a6 99 (by omega)]; exact f9 j, by rw [a2]; exact r9, fun a q1 q2 => by rw [a7 a q1 q2, ro a q1 q2, rotf_b hk], by rw [a6 103 (by omega)]; exact l3, fun a q1 q2 => by rw [a3, a4, a2]; exact o a q1 q2⟩
  obtain ⟨s1, s2, s3, s4⟩ := x1.2.2 a ha hs
  exact ⟨by rw [a6 a (by omega)]; exact s1, by rw [a3]; exact s2, by rw [a4]; exact s3, by rw [a2]; exact s4⟩
theorem Rt.kp {h h1 h2 : AH} {i k : Nat} {L : Nat → Int32} (x : Rt h h1 i k L) (ms : ModS h) (w : Wf h) (y : Kp (fun a => 113 ≤ a ∧ a ≤ 115) h1 h2) : Rt h h2 i k L := by
  obtain ⟨x1, f9, r9, ro, l3, o⟩ := x
  have lt : ∀ a, a ≤ 121 → a < zN h1 := fun a q => Nat.lt_of_lt_of_le (ms.lt w q) x1.1
  have s := fun a (q : a ≤ 112) => y.2.2 a (lt a (by omega)) (by omega)
  exact ⟨x1.tr (y.mono fun a _ q => Or.inr (Or.inr q)), fun j => by rw [(s 99 (by decide)).1]; exact f9 j, by rw [(s 99 (by decide)).2.2.2]; exact r9, fun a q1 q2 => by rw [(s a (by omega)).1]; exact ro a q1 q2, by rw [(s 103 (by decide)).1]; exact l3, fun a q1 q2 => by rw [(s a (by omega)).2.1, (s a (by omega)).2.2.1, (s a (by omega)).2.2.2]; exact o a q1 q2⟩
theorem Rt.len {h h1 : AH} {i k l : Nat} {L : Nat → Int32} {v : Int32} (x : Rt h h1 i k L) : Rt h (sI h1 103 l v) i k (up1 L l v) := by
  obtain ⟨x1, f9, r9, ro, l3, o⟩ := x
  exact ⟨x1.tr (Kp.sI (by omega)), fun j => by rw [zI_n (by decide)]; exact f9 j, r9, fun a q1 q2 => by rw [zI_n (by omega)]; exact ro a q1 q2, by rw [zI_sI, l3], o⟩
theorem Rt.s {h h1 : AH} {i k : Nat} {L : Nat → Int32} (w : Wf h) (ms : ModS h) (x : Rt h h1 i k L) : ModS h1 := ms.keep w x.1 x.2.2.1
/-- laws with law i moved to place k, and all behind place n left out -/
theorem Rt.mdb {h h1 : AH} {f : Nat → Nat} {gv : Nat → List Nat} {op l i k : Nat} {D : HD} {ws : List Lw} (w : Wf h) (hf : ModR h f gv op D) (hl : l < D.1) (hi : i ≤ k) (hk : k < (D.2.2.1 l).length) (h8 : ws.length ≤ 8)
    (x : Rt h h1 (l * 8 + i) (l * 8 + k) (up1 (zI h 103) l (nI ws.length))) (hw : ∀ j, j < ws.length → ws.getD j w0 = (D.2.2.1 l).getD (if i ≤ j ∧ j < k then j + 1 else if j = k then i else j) w0 ∧ (if i ≤ j ∧ j < k then j + 1 else if j = k then i else j) < (D.2.2.1 l).length) : MdB h1 f gv (setW D l ws) := by
  have ms := hf.1
  obtain ⟨-, -, x3, x4, ⟨z1, z2, z3, z4, z5⟩, -, -, x8⟩ := hf
  obtain ⟨k1, f9, r9, ro, l3, o⟩ := id x
  have l8 := x8.2.2.2.1
  have sm : ∀ a, 100 ≤ a → a ≤ 112 → ¬ (103 ≤ a ∧ a ≤ 107) → Sm h h1 a := fun a q1 q2 q3 => k1.2.2 a (ms.lt w (by omega)) (by omega)
  refine ⟨x.s w ms, fun s hs => ?_, fun m hm => ?_, ⟨?_, ?_, ?_, fun e he => ?_, ?_⟩, (setW_ok x8 h8).v⟩
  · rw [(sm 100 (by decide) (by decide) (by decide)).1]; exact x3 s hs
  · rw [(sm 101 (by decide) (by decide) (by decide)).2.1]; exact x4 m hm
  · rw [f9 4]; exact z1
  · rw [f9 11]; exact z2
  · rw [(sm 102 (by decide) (by decide) (by decide)).1]; exact z3
  · change e < D.1 at he
    have e8 := l8 e he
    have ll8 := l8 l hl
    rw [l3, show (setW D l ws).2.2.1 e = if e = l then ws else D.2.2.1 e from rfl]
    unfold LwM
    rw [ro 104 (by decide) (by decide), ro 105 (by decide) (by decide), ro 106 (by decide) (by decide), ro 107 (by decide) (by decide)]
    by_cases eq : e = l
    · subst eq
      rw [if_pos rfl, up1_s]
      refine ⟨rfl, fun j hj => ?_⟩
      obtain ⟨q1, q2⟩ := hw j hj
      have z := (z4 e he).2 _ q2
      rw [q1]
      have er : ∀ F : Nat → Int32, rotf F (e * 8 + i) (e * 8 + k) (e * 8 + j) = F (e * 8 + if i ≤ j ∧ j < k then j + 1 else if j = k then i else j) := fun F => by
        unfold rotf
        by_cases c1 : i ≤ j ∧ j < k
        · rw [if_pos (by omega), if_pos c1, Nat.add_assoc]
        · rw [if_neg (by omega), if_neg c1]
          by_cases c2 : j = k
          · rw [if_pos (by omega), if_pos c2]
          · rw [if_neg (by omega), if_neg c2]
      rw [er, er, er, er]
      exact z
    · rw [if_neg eq, up1_n _ _ eq]
      refine ⟨(z4 e he).1, fun j hj => ?_⟩
      have er : ∀ F : Nat → Int32, rotf F (l * 8 + i) (l * 8 + k) (e * 8 + j) = F (e * 8 + j) := fun F => by
        unfold rotf
        rw [if_neg (by omega), if_neg (by omega)]
      rw [er, er, er, er]
      exact (z4 e he).2 j hj
  · unfold LnM
    rw [(sm 108 (by decide) (by decide) (by decide)).1, (sm 109 (by decide) (by decide) (by decide)).1, (sm 110 (by decide) (by decide) (by decide)).1, (sm 111 (by decide) (by decide) (by decide)).1, (sm 112 (by decide) (by decide) (by decide)).1]
    exact z5
theorem Rt.rf {h : AH} {i : Nat} : Rt h h i i (zI h 103) := ⟨Kp.rf, fun _ => rfl, rfl, fun a _ _ => rotf_0.symm, rfl, fun a _ _ => ⟨rfl, rfl, rfl⟩⟩
theorem up1_self {F : Nat → Int32} {k : Nat} : up1 F k (F k) = F := by
  funext j
  by_cases e : j = k
  · rw [e, up1_s]
  · rw [up1_n _ _ e]
