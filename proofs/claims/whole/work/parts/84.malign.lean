/-! ===== the model aligns two words ===== -/
def CoM (h : AH) (cs : List (Nat × Nat)) : Prop := zI h 99 21 = nI cs.length ∧ ∀ k, k < cs.length → zI h 117 k = nI (cs.getD k (0, 0)).1 ∧ zI h 118 k = nI (cs.getD k (0, 0)).2
theorem CoM.add {h : AH} {cs : List (Nat × Nat)} {U V : Nat} (hc : CoM h cs) : CoM (sI (sI (sI h 117 cs.length (nI U)) 99 21 (nI (cs.length + 1))) 118 cs.length (nI V)) (cs ++ [(U, V)]) := by
  refine ⟨?_, fun k hk => ?_⟩
  · rw [zI_n (by decide), zI_sI, up1_s, List.length_append]
    rfl
  · rw [zI_n (show 117 ≠ 118 by decide), zI_n (show 117 ≠ 99 by decide), zI_sI, zI_sI, zI_n (show 118 ≠ 99 by decide), zI_n (show 118 ≠ 117 by decide), getD_snocG]
    by_cases e : k = cs.length
    · subst e
      rw [if_pos rfl, up1_s, up1_s]
      exact ⟨rfl, rfl⟩
    · rw [if_neg e, up1_n _ _ e, up1_n _ _ e]
      rw [List.length_append] at hk
      have : k < cs.length + 1 := hk
      exact hc.2 k (by omega)
theorem e_restV {g : Gp} {i j v : Nat} {h : AH} {Q : PQ} (ms : ModS h) (hi : i ≤ 10) (hj : j ≤ 10) (r : zI h 116 (i * 11 + j) = nI v) (hq : Q (.inl (some (vI (nI v)))) h) : Ev g mX10_restAt [vR 99, vI (nI i), vI (nI j)] h Q := by
  refine nX10_restAt ?_
  have kk : (nI (i * 11 + j)).toNatClampNeg = i * 11 + j := nI_clamp (by omega)
  refine rX10_restAt_0 ?_
  simp only [bX10_restAt_0, run, Nat.reduceAdd, lg, st1, st2, lkill, lset, fvv, sfv, kind3, cat1, retI, retA, List.length_cons, List.length_nil, true_and, and_true, or_true, true_or, qX10_restAt, mk_11, ms.1, ms.R20, ms.K116, kk, r, not_true_eq_false, not_false_eq_true, false_implies, true_and, and_true, tti]
  exact ⟨vp_in_nI (by omega) (by omega), hq⟩
/-- one cell of the table of rests -/
theorem e_mcell {g : Gp} {h : AH} {Q : PQ} {p q : Int64} {n m i j A B C K V x y : Nat} (ms : ModS h) (n10 : n ≤ 10) (m10 : m ≤ 10) (hi : i ≤ n) (hj : j ≤ m)
    (rA : i < n → zI h 116 ((i + 1) * 11 + j) = nI A) (rB : j < m → zI h 116 (i * 11 + (j + 1)) = nI B) (rC : i < n → j < m → zI h 116 ((i + 1) * 11 + (j + 1)) = nI C) (hA : A ≤ 80) (hB : B ≤ 80) (hC : C ≤ 80) (hK : K ≤ 7) (hV : V ≤ 80)
    (o : i < n → zI h 119 i = nI x) (t : j < m → zI h 120 j = nI y) (cost : i < n → j < m → ∀ Q : PQ, Q (.inl (some (vI (nI K)))) h → Ev g mX10_costOf [vR 99, vI (nI x), vI (nI y)] h Q)
    (v1 : i < n → j < m → V = min (4 + min A B) (K + C)) (v2 : i < n → j = m → V = 4 + A) (v3 : i = n → j < m → V = 4 + B) (v4 : i = n → j = m → V = 0)
    (out : ∀ y z, Ex g mX10_align 33 [vR 99, vL p, vU, vL q, vU, vI (nI n), vI (nI m), vI (nI i), vI (bI j), y, z] [] (sI h 116 (i * 11 + j) (nI V)) (0, 0) Q) (y9 z : AV) :
    Ex g mX10_align 33 [vR 99, vL p, vU, vL q, vU, vI (nI n), vI (nI m), vI (nI i), vI (bI (j + 1)), y9, z] [] h (0, 0) Q := by
  obtain ⟨M, hM1, hM2, eM⟩ : ∃ M : Nat, 200 ≤ M ∧ M < 2 ^ 31 ∧ (2147483647 : Int32) = nI M := ⟨2147483647, by decide, by decide, rfl⟩
  have kk : (nI (i * 11 + j)).toNatClampNeg = i * 11 + j := nI_clamp (by omega)
  have vk := vp_in_nI (show i * 11 + j < 121 by omega) (by omega : 121 < 2 ^ 31)
  have e6 : nI j + -1 = bI j := by rw [← bI_s j]; exact bI_dec j
  have f164 : ∀ v : Nat, v = V → ∀ z, Ex g mX10_align 164 [vR 99, vL p, vU, vL q, vU, vI (nI n), vI (nI m), vI (nI i), vI (nI j), vI (nI v), z] [] h (0, 0) Q := by
    intro v ev z
    refine rX10_align_164 ?_
    simp only [bX10_align_164, run, Nat.reduceAdd, lg, st1, st2, lkill, lset, fvv, sfv, kind3, cat1, retI, retA, List.length_cons, List.length_nil, true_and, and_true, or_true, true_or, qX10_align, mk_11, ms.1, ms.R20, ms.K116, kk, e6, not_true_eq_false, not_false_eq_true, false_implies, true_and, and_true, tti]
    rw [ev]
    exact ⟨vk, out _ _⟩
  have f162 : ∀ v : Nat, v = V → ∀ u z, Ex g mX10_align 162 [vR 99, vL p, vU, vL q, vU, vI (nI n), vI (nI m), vI (nI i), vI (nI j), vI (nI u), z] [vI (nI v)] h (0, 0) Q := by
    intro v ev u z
    refine x_istore (i := 9) (Nat.le_of_ble_eq_true rfl) (by decide +kernel) ?_
    exact f164 v ev z
  have gei : nI n ≤ nI i ↔ ¬ i < n := ⟨fun q => by have := (nI_leI (by omega) (by omega)).mp q; omega, fun q => nI_le (by omega) (by omega)⟩
  have gej : nI m ≤ nI j ↔ ¬ j < m := ⟨fun q => by have := (nI_leI (by omega) (by omega)).mp q; omega, fun q => nI_le (by omega) (by omega)⟩
  have c4 : ∀ n, 4 + nI n = nI (4 + n) := fun n => by rw [show (4 : Int32) = nI 4 from rfl, nI_add]
  have f159 : ∀ c : Nat, c < 2 ^ 31 → j < m → min c (4 + B) = V → ∀ u z, Ex g mX10_align 155 [vR 99, vL p, vU, vL q, vU, vI (nI n), vI (nI m), vI (nI i), vI (nI j), vI (nI u), z] [vI (nI (j + 1)), vI (nI i), vR 99, vI 4, vI (nI c)] h (0, 0) Q := by
    intro c hc hj2 e u z
    refine sX10_align_155 ms.1 (e_restV ms (by omega) (by omega) (rB hj2) ?_)
    simp only [cont, Option.toList, List.cons_append, List.nil_append]
    refine rX10_align_158 ?_
    simp only [bX10_align_158, run, Nat.reduceAdd, lg, st1, st2, lkill, lset, fvv, sfv, kind3, cat1, retI, retA, List.length_cons, List.length_nil, true_and, and_true, or_true, true_or, qX10_align, c4]
    refine sX10_align_159 ?_
    rw [nI_min hc (by omega)]
    exact f162 _ e _ _
  have f138 : ∀ c : Nat, c < 2 ^ 31 → (j < m → min c (4 + B) = V) → (¬ j < m → c = V) → ∀ z, Ex g mX10_align 138 [vR 99, vL p, vU, vL q, vU, vI (nI n), vI (nI m), vI (nI i), vI (nI j), vI (nI c), z] [] h (0, 0) Q := by
    intro c hc q1 q2 z
    by_cases hj2 : j < m
    · have z9 := f159 c hc hj2 (q1 hj2) c z
      refine rX10_align_138 ?_
      simp only [bX10_align_138, run, Nat.reduceAdd, lg, st1, st2, lkill, lset, fvv, sfv, kind3, cat1, retI, retA, List.length_cons, List.length_nil, true_and, and_true, or_true, true_or, qX10_align, gej, hj2, nI_1, not_true_eq_false, not_false_eq_true, false_implies, true_and, and_true, tti]
      exact z9
    · have z9 := f164 c (q2 hj2) z
      refine rX10_align_138 ?_
      simp only [bX10_align_138, run, Nat.reduceAdd, lg, st1, st2, lkill, lset, fvv, sfv, kind3, cat1, retI, retA, List.length_cons, List.length_nil, true_and, and_true, or_true, true_or, qX10_align, gej, hj2, not_true_eq_false, not_false_eq_true, false_implies, true_and, and_true, tti]
      exact z9
  have f136 : ∀ c : Nat, c < 2 ^ 31 → (j < m → min c (4 + B) = V) → (¬ j < m → c = V) → ∀ u z, Ex g mX10_align 136 [vR 99, vL p, vU, vL q, vU, vI (nI n), vI (nI m), vI (nI i), vI (nI j), vI (nI u), z] [vI (nI c)] h (0, 0) Q := by
    intro c hc q1 q2 u z
    by_cases hj2 : j < m
    · have z9 := f159 c hc hj2 (q1 hj2) c z
      refine rX10_align_136 ?_
      simp only [bX10_align_136, run, Nat.reduceAdd, lg, st1, st2, lkill, lset, fvv, sfv, kind3, cat1, retI, retA, List.length_cons, List.length_nil, true_and, and_true, or_true, true_or, qX10_align, gej, hj2, nI_1, not_true_eq_false, not_false_eq_true, false_implies, true_and, and_true, tti]
      exact z9
    · have z9 := f164 c (q2 hj2) z
      refine rX10_align_136 ?_
      simp only [bX10_align_136, run, Nat.reduceAdd, lg, st1, st2, lkill, lset, fvv, sfv, kind3, cat1, retI, retA, List.length_cons, List.length_nil, true_and, and_true, or_true, true_or, qX10_align, gej, hj2, not_true_eq_false, not_false_eq_true, false_implies, true_and, and_true, tti]
      exact z9
  have f133 : ∀ c : Nat, c < 2 ^ 31 → i < n → (j < m → min (min c (4 + A)) (4 + B) = V) → (¬ j < m → min c (4 + A) = V) → ∀ u z, Ex g mX10_align 129 [vR 99, vL p, vU, vL q, vU, vI (nI n), vI (nI m), vI (nI i), vI (nI j), vI (nI u), z] [vI (nI j), vI (nI (i + 1)), vR 99, vI 4, vI (nI c)] h (0, 0) Q := by
    intro c hc hi2 q1 q2 u z
    refine sX10_align_129 ms.1 (e_restV ms (by omega) (by omega) (rA hi2) ?_)
    simp only [cont, Option.toList, List.cons_append, List.nil_append]
    refine rX10_align_132 ?_
    simp only [bX10_align_132, run, Nat.reduceAdd, lg, st1, st2, lkill, lset, fvv, sfv, kind3, cat1, retI, retA, List.length_cons, List.length_nil, true_and, and_true, or_true, true_or, qX10_align, c4]
    refine sX10_align_133 ?_
    rw [nI_min hc (by omega)]
    exact f136 _ (by omega) q1 q2 _ _
  have f110 : ∀ c : Nat, c < 2 ^ 31 → i < n → (j < m → min (min c (4 + A)) (4 + B) = V) → (¬ j < m → min c (4 + A) = V) → ∀ u z, Ex g mX10_align 110 [vR 99, vL p, vU, vL q, vU, vI (nI n), vI (nI m), vI (nI i), vI (nI j), vI (nI u), z] [vI (nI c)] h (0, 0) Q := by
    intro c hc hi2 q1 q2 u z
    have z9 := f133 c hc hi2 q1 q2 c z
    refine rX10_align_110 ?_
    simp only [bX10_align_110, run, Nat.reduceAdd, lg, st1, st2, lkill, lset, fvv, sfv, kind3, cat1, retI, retA, List.length_cons, List.length_nil, true_and, and_true, or_true, true_or, qX10_align, gei, hi2, nI_1, not_true_eq_false, not_false_eq_true, false_implies, true_and, and_true, tti]
    exact z9
  by_cases hi2 : i < n
  · have nei : nI i = nI n ↔ False := ⟨fun q => by have := (nI_eq (by omega) (by omega)).mp q; omega, False.elim⟩
    rw [bI_s]
    refine rX10_align_33 ?_
    simp only [bX10_align_33, run, Nat.reduceAdd, lg, st1, st2, lkill, lset, fvv, sfv, kind3, cat1, retI, retA, List.length_cons, List.length_nil, true_and, and_true, or_true, true_or, qX10_align, show nI j < 0 ↔ False from ⟨nI_nlt (a := j) (b := 0) (by omega) (by omega), False.elim⟩, nei, not_true_eq_false, not_false_eq_true, false_implies, true_and, and_true, tti]
    by_cases hj2 : j < m
    · have ki : (nI i).toNatClampNeg = i := nI_clamp (by omega)
      have kj : (nI j).toNatClampNeg = j := nI_clamp (by omega)
      refine rX10_align_56 ?_
      simp only [bX10_align_56, run, Nat.reduceAdd, lg, st1, st2, lkill, lset, fvv, sfv, kind3, cat1, retI, retA, List.length_cons, List.length_nil, true_and, and_true, or_true, true_or, qX10_align, eM, gei, gej, hi2, hj2, ms.1, ms.R24, ms.R25, ms.K119, ms.K120, ki, kj, o hi2, t hj2, not_true_eq_false, not_false_eq_true, false_implies, true_and, and_true, tti]
      refine ⟨vp_in_nI (by omega) (by omega), vp_in_nI (by omega) (by omega), sX10_align_91 ms.1 (cost hi2 hj2 _ ?_)⟩
      simp only [cont, Option.toList, List.cons_append, List.nil_append]
      refine rX10_align_94 ?_
      simp only [bX10_align_94, run, Nat.reduceAdd, lg, st1, st2, lkill, lset, fvv, sfv, kind3, cat1, retI, retA, List.length_cons, List.length_nil, true_and, and_true, or_true, true_or, qX10_align, nI_1]
      refine sX10_align_103 ms.1 (e_restV ms (by omega) (by omega) (rC hi2 hj2) ?_)
      simp only [cont, Option.toList, List.cons_append, List.nil_append]
      refine rX10_align_106 ?_
      simp only [bX10_align_106, run, Nat.reduceAdd, lg, st1, st2, lkill, lset, fvv, sfv, kind3, cat1, retI, retA, List.length_cons, List.length_nil, true_and, and_true, or_true, true_or, qX10_align, nI_add]
      refine sX10_align_107 ?_
      rw [nI_min hM2 (by omega)]
      have er := v1 hi2 hj2
      exact f110 _ (by omega) hi2 (fun _ => by omega) (fun q => absurd hj2 q) M z
    · have er := v2 hi2 (by omega)
      have z9 := f133 M hM2 hi2 (fun q => absurd q hj2) (fun _ => by omega) M z
      refine rX10_align_56 ?_
      simp only [bX10_align_56, run, Nat.reduceAdd, lg, st1, st2, lkill, lset, fvv, sfv, kind3, cat1, retI, retA, List.length_cons, List.length_nil, true_and, and_true, or_true, true_or, qX10_align, eM, gei, gej, hi2, hj2, not_true_eq_false, not_false_eq_true, false_implies, true_and, and_true, tti]
      refine rX10_align_112 ?_
      simp only [bX10_align_112, run, Nat.reduceAdd, lg, st1, st2, lkill, lset, fvv, sfv, kind3, cat1, retI, retA, List.length_cons, List.length_nil, true_and, and_true, or_true, true_or, qX10_align, gei, hi2, nI_1, not_true_eq_false, not_false_eq_true, false_implies, true_and, and_true, tti]
      exact z9
  · have ei : i = n := by omega
    have tei : nI i = nI n ↔ True := ⟨fun _ => trivial, fun _ => by rw [ei]⟩
    by_cases hj2 : j < m
    · have nej : nI j = nI m ↔ False := ⟨fun q => by have := (nI_eq (by omega) (by omega)).mp q; omega, False.elim⟩
      have er := v3 ei hj2
      have z9 := f138 M hM2 (fun _ => by omega) (fun q => absurd hj2 q) z
      rw [bI_s]
      refine rX10_align_33 ?_
      simp only [bX10_align_33, run, Nat.reduceAdd, lg, st1, st2, lkill, lset, fvv, sfv, kind3, cat1, retI, retA, List.length_cons, List.length_nil, true_and, and_true, or_true, true_or, qX10_align, show nI j < 0 ↔ False from ⟨nI_nlt (a := j) (b := 0) (by omega) (by omega), False.elim⟩, tei, nej, not_true_eq_false, not_false_eq_true, false_implies, true_and, and_true, tti]
      refine rX10_align_56 ?_
      simp only [bX10_align_56, run, Nat.reduceAdd, lg, st1, st2, lkill, lset, fvv, sfv, kind3, cat1, retI, retA, List.length_cons, List.length_nil, true_and, and_true, or_true, true_or, qX10_align, eM, gei, hi2, not_true_eq_false, not_false_eq_true, false_implies, true_and, and_true, tti]
      refine rX10_align_112 ?_
      simp only [bX10_align_112, run, Nat.reduceAdd, lg, st1, st2, lkill, lset, fvv, sfv, kind3, cat1, retI, retA, List.length_cons, List.length_nil, true_and, and_true, or_true, true_or, qX10_align, gei, hi2, not_true_eq_false, not_false_eq_true, false_implies, true_and, and_true, tti]
      exact z9
    · have tej : nI j = nI m ↔ True := ⟨fun _ => trivial, fun _ => by rw [show j = m by omega]⟩
      have er := v4 ei (by omega)
      have z9 := f138 0 (by decide) (fun q => absurd q hj2) (fun _ => by omega) z
      rw [bI_s]
      refine rX10_align_33 ?_
      simp only [bX10_align_33, run, Nat.reduceAdd, lg, st1, st2, lkill, lset, fvv, sfv, kind3, cat1, retI, retA, List.length_cons, List.length_nil, true_and, and_true, or_true, true_or, qX10_align, show nI j < 0 ↔ False from ⟨nI_nlt (a := j) (b := 0) (by omega) (by omega), False.elim⟩, tei, tej, gei, hi2, not_true_eq_false, not_false_eq_true, false_implies, true_and, and_true, tti]
      refine rX10_align_112 ?_
      simp only [bX10_align_112, run, Nat.reduceAdd, lg, st1, st2, lkill, lset, fvv, sfv, kind3, cat1, retI, retA, List.length_cons, List.length_nil, true_and, and_true, or_true, true_or, qX10_align, gei, hi2, not_true_eq_false, not_false_eq_true, false_implies, true_and, and_true, tti]
      exact z9
/-- one column -/
theorem e_mstep {g : Gp} {h : AH} {Q : PQ} {p q : Int64} {n m i j A C R K x y c : Nat} (ms : ModS h) (n10 : n ≤ 10) (m10 : m ≤ 10) (hi : i ≤ n) (hj : j ≤ m) (hc : c < 20) (hm : i < n ∨ j < m) (e21 : zI h 99 21 = nI c)
    (rR : zI h 116 (i * 11 + j) = nI R) (rA : i < n → zI h 116 ((i + 1) * 11 + j) = nI A) (rC : i < n → j < m → zI h 116 ((i + 1) * 11 + (j + 1)) = nI C) (hA : A ≤ 80) (hC : C ≤ 80) (hR : R ≤ 80) (hK : K ≤ 7)
    (o : i < n → zI h 119 i = nI x) (t : j < m → zI h 120 j = nI y) (cost : i < n → j < m → ∀ Q : PQ, Q (.inl (some (vI (nI K)))) h → Ev g mX10_costOf [vR 99, vI (nI x), vI (nI y)] h Q)
    (kP : (i < n ∧ j < m ∧ K + C = R) → ∀ y9 z9 : Int32, Ex g mX10_align 202 [vR 99, vL p, vU, vL q, vU, vI (nI n), vI (nI m), vI (nI (i + 1)), vI (nI (j + 1)), vI y9, vI z9] [] (sI (sI (sI h 117 c (nI x)) 99 21 (nI (c + 1))) 118 c (nI y)) (0, 0) Q)
    (kF : ¬ (i < n ∧ j < m ∧ K + C = R) → (i < n ∧ 4 + A = R) → ∀ y9 z9 : Int32, Ex g mX10_align 202 [vR 99, vL p, vU, vL q, vU, vI (nI n), vI (nI m), vI (nI (i + 1)), vI (nI j), vI y9, vI z9] [] (sI (sI (sI h 117 c (nI x)) 99 21 (nI (c + 1))) 118 c (nI 16)) (0, 0) Q)
    (kS : ¬ (i < n ∧ j < m ∧ K + C = R) → ¬ (i < n ∧ 4 + A = R) → j < m ∧ ∀ y9 z9 : Int32, Ex g mX10_align 202 [vR 99, vL p, vU, vL q, vU, vI (nI n), vI (nI m), vI (nI i), vI (nI (j + 1)), vI y9, vI z9] [] (sI (sI (sI h 117 c (nI 16)) 99 21 (nI (c + 1))) 118 c (nI y)) (0, 0) Q) (y9 z9 : AV) :
    Ex g mX10_align 202 [vR 99, vL p, vU, vL q, vU, vI (nI n), vI (nI m), vI (nI i), vI (nI j), y9, z9] [] h (0, 0) Q := by
  have ki : (nI i).toNatClampNeg = i := nI_clamp (by omega)
  have kj : (nI j).toNatClampNeg = j := nI_clamp (by omega)
  have kc : (nI c).toNatClampNeg = c := nI_clamp (by omega)
  have vc := vp_in_nI hc (by omega : 20 < 2 ^ 31)
  have gei : nI n ≤ nI i ↔ ¬ i < n := ⟨fun q => by have := (nI_leI (by omega) (by omega)).mp q; omega, fun q => nI_le (by omega) (by omega)⟩
  have gej : nI m ≤ nI j ↔ ¬ j < m := ⟨fun q => by have := (nI_leI (by omega) (by omega)).mp q; omega, fun q => nI_le (by omega) (by omega)⟩
  have lti : nI i < nI n ↔ i < n := nI_ltI (by omega) (by omega)
  have c4 : ∀ n, 4 + nI n = nI (4 + n) := fun n => by rw [show (4 : Int32) = nI 4 from rfl, nI_add]
  have n1 : ¬ (1 : Int32) = 0 := by decide
  have q99 : ∀ k v, zI (sI h 117 k v) 99 = zI h 99 := fun k v => zI_n (by decide)
  have q120 : ∀ k v, zI (sI h 117 k v) 120 = zI h 120 := fun k v => zI_n (by decide)
  have q120b : ∀ k v h, zI (sI h 99 k v) 120 = zI h 120 := fun k v h => zI_n (by decide)
  have f318 : ¬ (i < n ∧ j < m ∧ K + C = R) → ¬ (i < n ∧ 4 + A = R) → ∀ z9 : AV, Ex g mX10_align 318 [vR 99, vL p, vU, vL q, vU, vI (nI n), vI (nI m), vI (nI i), vI (nI j), vI 0, z9] [] h (0, 0) Q := fun nP nF z9 => by
    obtain ⟨hj2, k⟩ := kS nP nF
    refine rX10_align_318 ?_
    simp only [bX10_align_318, run, Nat.reduceAdd, lg, st1, st2, lkill, lset, fvv, sfv, kind3, cat1, retI, retA, List.length_cons, List.length_nil, true_and, and_true, or_true, true_or, qX10_align, ms.1, ms.R22, e21, not_true_eq_false, not_false_eq_true, false_implies, true_and, and_true, tti]
    refine rX10_align_344 ?_
    simp only [bX10_align_344, run, Nat.reduceAdd, lg, st1, st2, lkill, lset, fvv, sfv, kind3, cat1, retI, retA, List.length_cons, List.length_nil, true_and, and_true, or_true, true_or, qX10_align, kL, kI, kD, kR, rL, rI, rD, iL, iD, iR, lI, lD, lR, ms.1, ms.R22, ms.R23, ms.K117, ms.K118, ms.R25, ms.K120, kc, kj, q99, q120, q120b, e21, t hj2, nI_1, not_true_eq_false, not_false_eq_true, false_implies, true_and, and_true, tti]
    refine ⟨vc, vp_in_nI (by omega) (by omega), vc, ?_⟩
    refine rX10_align_396 ?_
    simp only [bX10_align_396, run, Nat.reduceAdd, lg, st1, st2, lkill, lset, fvv, sfv, kind3, cat1, retI, retA, List.length_cons, List.length_nil, true_and, and_true, or_true, true_or, qX10_align, show nI i + 0 = nI i from nI_add i 0, nI_1, not_true_eq_false, not_false_eq_true, false_implies, true_and, and_true, tti]
    exact k _ _
  have f276 : ¬ (i < n ∧ j < m ∧ K + C = R) → ∀ y9 z9 : AV, Ex g mX10_align 276 [vR 99, vL p, vU, vL q, vU, vI (nI n), vI (nI m), vI (nI i), vI (nI j), y9, z9] [] h (0, 0) Q := fun nP y9 z9 => by
    by_cases hi2 : i < n
    · refine rX10_align_276 ?_
      simp only [bX10_align_276, run, Nat.reduceAdd, lg, st1, st2, lkill, lset, fvv, sfv, kind3, cat1, retI, retA, List.length_cons, List.length_nil, true_and, and_true, or_true, true_or, qX10_align, gei, hi2, not_true_eq_false, not_false_eq_true, false_implies, true_and, and_true, tti]
      refine sX10_align_296 ms.1 (e_restV ms (by omega) (by omega) rR ?_)
      simp only [cont, Option.toList, List.cons_append, List.nil_append]
      refine rX10_align_299 ?_
      simp only [bX10_align_299, run, Nat.reduceAdd, lg, st1, st2, lkill, lset, fvv, sfv, kind3, cat1, retI, retA, List.length_cons, List.length_nil, true_and, and_true, or_true, true_or, qX10_align, nI_1]
      refine sX10_align_307 ms.1 (e_restV ms (by omega) (by omega) (rA hi2) ?_)
      simp only [cont, Option.toList, List.cons_append, List.nil_append]
      by_cases hF : 4 + A = R
      · have k := kF nP ⟨hi2, hF⟩
        refine rX10_align_310 ?_
        simp only [bX10_align_310, run, Nat.reduceAdd, lg, st1, st2, lkill, lset, fvv, sfv, kind3, cat1, retI, retA, List.length_cons, List.length_nil, true_and, and_true, or_true, true_or, qX10_align, kL, kI, kD, kR, rL, rI, rD, iL, iD, iR, lI, lD, lR, c4, show nI R = nI (4 + A) ↔ True from ⟨fun _ => trivial, fun _ => by rw [hF]⟩, n1, ms.1, ms.R22, ms.R23, ms.K117, ms.R24, ms.K119, ki, kc, o hi2, q99, e21, nI_1, not_true_eq_false, not_false_eq_true, false_implies, true_and, and_true, tti]
        refine ⟨vp_in_nI (by omega) (by omega), vc, ?_⟩
        refine rX10_align_382 ?_
        simp only [bX10_align_382, run, Nat.reduceAdd, lg, st1, st2, lkill, lset, fvv, sfv, kind3, cat1, retI, retA, List.length_cons, List.length_nil, true_and, and_true, or_true, true_or, qX10_align, kL, kI, kD, kR, rL, rI, rD, iL, iD, iR, lI, lD, lR, n1, ms.K118, kc, nI_1, not_true_eq_false, not_false_eq_true, false_implies, true_and, and_true, tti]
        refine ⟨vc, ?_⟩
        refine rX10_align_416 ?_
        simp only [bX10_align_416, run, Nat.reduceAdd, lg, st1, st2, lkill, lset, fvv, sfv, kind3, cat1, retI, retA, List.length_cons, List.length_nil, true_and, and_true, or_true, true_or, qX10_align, show nI j + 0 = nI j from nI_add j 0, not_true_eq_false, not_false_eq_true, false_implies, true_and, and_true, tti]
        exact k _ _
      · have k := f318 nP (fun q => hF q.2)
        refine rX10_align_310 ?_
        simp only [bX10_align_310, run, Nat.reduceAdd, lg, st1, st2, lkill, lset, fvv, sfv, kind3, cat1, retI, retA, List.length_cons, List.length_nil, true_and, and_true, or_true, true_or, qX10_align, c4, show nI R = nI (4 + A) ↔ False from ⟨fun q => hF ((nI_eq (by omega) (by omega)).mp q).symm, False.elim⟩, not_true_eq_false, not_false_eq_true, false_implies, true_and, and_true, tti]
        exact k _
    · have k := f318 nP (fun q => hi2 q.1)
      refine rX10_align_276 ?_
      simp only [bX10_align_276, run, Nat.reduceAdd, lg, st1, st2, lkill, lset, fvv, sfv, kind3, cat1, retI, retA, List.length_cons, List.length_nil, true_and, and_true, or_true, true_or, qX10_align, gei, hi2, not_true_eq_false, not_false_eq_true, false_implies, true_and, and_true, tti]
      exact k _
  have f216 : Ex g mX10_align 216 [vR 99, vL p, vU, vL q, vU, vI (nI n), vI (nI m), vI (nI i), vI (nI j), y9, z9] [] h (0, 0) Q → Ex g mX10_align 202 [vR 99, vL p, vU, vL q, vU, vI (nI n), vI (nI m), vI (nI i), vI (nI j), y9, z9] [] h (0, 0) Q := fun k => by
    by_cases hi2 : i < n
    · refine rX10_align_202 ?_
      simp only [bX10_align_202, run, Nat.reduceAdd, lg, st1, st2, lkill, lset, fvv, sfv, kind3, cat1, retI, retA, List.length_cons, List.length_nil, true_and, and_true, or_true, true_or, qX10_align, lti, hi2, not_true_eq_false, not_false_eq_true, false_implies, true_and, and_true, tti]
      exact k
    · have hj2 : j < m := hm.resolve_left hi2
      have k2 := f276 (fun q => hi2 q.1) y9 z9
      refine rX10_align_202 ?_
      simp only [bX10_align_202, run, Nat.reduceAdd, lg, st1, st2, lkill, lset, fvv, sfv, kind3, cat1, retI, retA, List.length_cons, List.length_nil, true_and, and_true, or_true, true_or, qX10_align, lti, gei, gej, hi2, hj2, not_true_eq_false, not_false_eq_true, false_implies, true_and, and_true, tti]
      exact k2
  refine f216 ?_
  by_cases hi2 : i < n
  · by_cases hj2 : j < m
    · refine rX10_align_216 ?_
      simp only [bX10_align_216, run, Nat.reduceAdd, lg, st1, st2, lkill, lset, fvv, sfv, kind3, cat1, retI, retA, List.length_cons, List.length_nil, true_and, and_true, or_true, true_or, qX10_align, gei, gej, hi2, hj2, not_true_eq_false, not_false_eq_true, false_implies, true_and, and_true, tti]
      refine sX10_align_235 ms.1 (e_restV ms (by omega) (by omega) rR ?_)
      simp only [cont, Option.toList, List.cons_append, List.nil_append]
      refine rX10_align_238 ?_
      simp only [bX10_align_238, run, Nat.reduceAdd, lg, st1, st2, lkill, lset, fvv, sfv, kind3, cat1, retI, retA, List.length_cons, List.length_nil, true_and, and_true, or_true, true_or, qX10_align, ms.1, ms.R24, ms.R25, ms.K119, ms.K120, ki, kj, o hi2, t hj2, not_true_eq_false, not_false_eq_true, false_implies, true_and, and_true, tti]
      refine ⟨vp_in_nI (by omega) (by omega), vp_in_nI (by omega) (by omega), sX10_align_253 ms.1 (cost hi2 hj2 _ ?_)⟩
      simp only [cont, Option.toList, List.cons_append, List.nil_append]
      refine rX10_align_256 ?_
      simp only [bX10_align_256, run, Nat.reduceAdd, lg, st1, st2, lkill, lset, fvv, sfv, kind3, cat1, retI, retA, List.length_cons, List.length_nil, true_and, and_true, or_true, true_or, qX10_align, nI_1]
      refine sX10_align_265 ms.1 (e_restV ms (by omega) (by omega) (rC hi2 hj2) ?_)
      simp only [cont, Option.toList, List.cons_append, List.nil_append]
      by_cases hP : K + C = R
      · have k := kP ⟨hi2, hj2, hP⟩
        refine rX10_align_268 ?_
        simp only [bX10_align_268, run, Nat.reduceAdd, lg, st1, st2, lkill, lset, fvv, sfv, kind3, cat1, retI, retA, List.length_cons, List.length_nil, true_and, and_true, or_true, true_or, qX10_align, nI_add, show nI R = nI (K + C) ↔ True from ⟨fun _ => trivial, fun _ => by rw [hP]⟩, n1, not_true_eq_false, not_false_eq_true, false_implies, true_and, and_true, tti]
        refine rX10_align_314 ?_
        simp only [bX10_align_314, run, Nat.reduceAdd, lg, st1, st2, lkill, lset, fvv, sfv, kind3, cat1, retI, retA, List.length_cons, List.length_nil, true_and, and_true, or_true, true_or, qX10_align, kL, kI, kD, kR, rL, rI, rD, iL, iD, iR, lI, lD, lR, n1, ms.1, ms.R22, ms.R23, ms.K117, ms.R24, ms.K119, ki, kc, o hi2, q99, e21, nI_1, not_true_eq_false, not_false_eq_true, false_implies, true_and, and_true, tti]
        refine ⟨vp_in_nI (by omega) (by omega), vc, ?_⟩
        refine rX10_align_372 ?_
        simp only [bX10_align_372, run, Nat.reduceAdd, lg, st1, st2, lkill, lset, fvv, sfv, kind3, cat1, retI, retA, List.length_cons, List.length_nil, true_and, and_true, or_true, true_or, qX10_align, kL, kI, kD, kR, rL, rI, rD, iL, iD, iR, lI, lD, lR, n1, ms.1, ms.R25, ms.K118, ms.K120, kj, kc, q120, q120b, t hj2, nI_1, not_true_eq_false, not_false_eq_true, false_implies, true_and, and_true, tti]
        refine ⟨vp_in_nI (by omega) (by omega), vc, ?_⟩
        refine rX10_align_412 ?_
        simp only [bX10_align_412, run, Nat.reduceAdd, lg, st1, st2, lkill, lset, fvv, sfv, kind3, cat1, retI, retA, List.length_cons, List.length_nil, true_and, and_true, or_true, true_or, qX10_align, nI_1, not_true_eq_false, not_false_eq_true, false_implies, true_and, and_true, tti]
        exact k _ _
      · have k := f276 (fun q => hP q.2.2)
        refine rX10_align_268 ?_
        simp only [bX10_align_268, run, Nat.reduceAdd, lg, st1, st2, lkill, lset, fvv, sfv, kind3, cat1, retI, retA, List.length_cons, List.length_nil, true_and, and_true, or_true, true_or, qX10_align, nI_add, show nI R = nI (K + C) ↔ False from ⟨fun q => hP ((nI_eq (by omega) (by omega)).mp q).symm, False.elim⟩, not_true_eq_false, not_false_eq_true, false_implies, true_and, and_true, tti]
        exact k _ _
    · have k := f276 (fun q => hj2 q.2.1) y9 z9
      refine rX10_align_216 ?_
      simp only [bX10_align_216, run, Nat.reduceAdd, lg, st1, st2, lkill, lset, fvv, sfv, kind3, cat1, retI, retA, List.length_cons, List.length_nil, true_and, and_true, or_true, true_or, qX10_align, gei, gej, hi2, hj2, not_true_eq_false, not_false_eq_true, false_implies, true_and, and_true, tti]
      exact k
  · have k := f276 (fun q => hi2 q.1) y9 z9
    refine rX10_align_216 ?_
    simp only [bX10_align_216, run, Nat.reduceAdd, lg, st1, st2, lkill, lset, fvv, sfv, kind3, cat1, retI, retA, List.length_cons, List.length_nil, true_and, and_true, or_true, true_or, qX10_align, gei, hi2, not_true_eq_false, not_false_eq_true, false_implies, true_and, and_true, tti]
    exact k
