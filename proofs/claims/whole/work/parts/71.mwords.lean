/-! ===== the model's words: a 1 and then the sounds by sixteens ===== -/
def wN (w : List Nat) : Nat := w.foldl (fun a s => a * 16 + s) 1
def wM (w : List Nat) : Int64 := lN (wN w)
theorem wN_snoc (w : List Nat) (s : Nat) : wN (w ++ [s]) = wN w * 16 + s := by
  unfold wN
  rw [List.foldl_append]
  rfl
theorem take_snoc {w : List Nat} {j : Nat} (h : j < w.length) : w.take (j + 1) = w.take j ++ [w.getD j 0] := by
  rw [List.take_succ, List.getD_eq_getElem?_getD, List.getElem?_eq_getElem h]
  rfl
theorem wN_take {w : List Nat} {j : Nat} (h : j < w.length) : wN (w.take (j + 1)) = wN (w.take j) * 16 + w.getD j 0 := by
  rw [take_snoc h, wN_snoc]
theorem wN_bd {w : List Nat} (hw : ∀ s ∈ w, s < 16) : ∀ j, j ≤ w.length → 16 ^ j ≤ wN (w.take j) ∧ wN (w.take j) < 2 * 16 ^ j
  | 0, _ => by
    rw [List.take_zero]
    exact ⟨by decide, by decide⟩
  | j + 1, hj => by
    have ih := wN_bd hw j (by omega)
    have h16 : w.getD j 0 < 16 := by
      rw [List.getD_eq_getElem?_getD, List.getElem?_eq_getElem (by omega)]
      exact hw _ (List.getElem_mem _)
    rw [wN_take (by omega), Nat.pow_succ]
    omega
theorem wN_full (w : List Nat) : wN (w.take w.length) = wN w := by rw [List.take_length]
theorem wN_lt {w : List Nat} (hw : Wok w) {j : Nat} (hj : j ≤ w.length) : wN (w.take j) < 2 ^ 44 := by
  have h1 := (wN_bd hw.2 j hj).2
  have h2 : 16 ^ j ≤ 16 ^ 10 := Nat.pow_le_pow_right (by decide) (by have := hw.1; omega)
  have h3 : (16 : Nat) ^ 10 = 1099511627776 := by decide
  have h4 : (2 : Nat) ^ 44 = 17592186044416 := by decide
  omega
theorem wN_lt0 {w : List Nat} (hw : Wok w) : wN w < 2 ^ 44 := by
  rw [← wN_full]
  exact wN_lt hw (Nat.le_refl _)
theorem wN_div {w : List Nat} (hw : ∀ s ∈ w, s < 16) : ∀ d j, j + d = w.length → wN (w.take j) = wN w / 16 ^ d
  | 0, j, h => by
    have e : j = w.length := by omega
    subst e
    rw [wN_full, Nat.pow_zero, Nat.div_one]
  | d + 1, j, h => by
    have ih := wN_div hw d (j + 1) (by omega)
    have h16 : w.getD j 0 < 16 := by
      rw [List.getD_eq_getElem?_getD, List.getElem?_eq_getElem (by omega)]
      exact hw _ (List.getElem_mem _)
    rw [wN_take (by omega)] at ih
    rw [Nat.pow_succ, ← Nat.div_div_eq_div_mul, ← ih]
    omega
theorem p16_mono {a b : Nat} (h : (16 : Nat) ^ a < 2 * 16 ^ b) : a ≤ b := by
  refine Nat.le_of_not_lt fun q => ?_
  have : (16 : Nat) ^ (b + 1) ≤ 16 ^ a := Nat.pow_le_pow_right (by decide) q
  rw [Nat.pow_succ] at this
  omega
theorem wN_inj {a b : List Nat} (ha : ∀ s ∈ a, s < 16) (hb : ∀ s ∈ b, s < 16) (h : wN a = wN b) : a = b := by
  have a1 := wN_bd ha a.length (Nat.le_refl _)
  have b1 := wN_bd hb b.length (Nat.le_refl _)
  rw [wN_full] at a1 b1
  have len : a.length = b.length := Nat.le_antisymm (p16_mono (by omega)) (p16_mono (by omega))
  refine List.ext_getElem len fun p h1 h2 => ?_
  have ea := wN_div ha (a.length - (p + 1)) (p + 1) (by omega)
  have eb := wN_div hb (b.length - (p + 1)) (p + 1) (by omega)
  rw [wN_take h1] at ea
  rw [wN_take h2] at eb
  have fa := wN_div ha (a.length - p) p (by omega)
  have fb := wN_div hb (b.length - p) p (by omega)
  rw [h, len] at ea
  rw [h, len] at fa
  have ga : a.getD p 0 = a[p] := by rw [List.getD_eq_getElem?_getD, List.getElem?_eq_getElem h1]; rfl
  have gb : b.getD p 0 = b[p] := by rw [List.getD_eq_getElem?_getD, List.getElem?_eq_getElem h2]; rfl
  rw [← ga, ← gb]
  omega
theorem wM_inj {a b : List Nat} (ha : Wok a) (hb : Wok b) : wM a = wM b ↔ a = b := by
  have h1 := wN_lt0 ha
  have h2 := wN_lt0 hb
  exact ⟨fun e => wN_inj ha.2 hb.2 ((pk_lEQ (by omega) (by omega)).mp e), fun e => by rw [e]⟩
theorem wM_nil : wM [] = 1 := rfl
theorem wM_1 {a : List Nat} (ha : Wok a) : wM a = 1 ↔ a = [] := by rw [← wM_nil]; exact wM_inj ha wok_nil
theorem nI_dec (n : Nat) : nI (n + 1) + -1 = nI n := by
  rw [← Int32.sub_eq_add_neg]
  exact nI_pred n
theorem e_mlen {g : Gp} {w : List Nat} {h : AH} {Q : PQ} (hw : Wok w) (hq : Q (.inl (some (vI (nI w.length)))) h) : Ev g mX10_length [vL (wM w)] h Q := by
  have w10 := hw.1
  refine nX10_length ?_
  have lp : ∀ j c, c + j = w.length → Ex g mX10_length 4 [vL (wM w), vU, vI (nI c), vL (lN (wN (w.take j))), vU] [] h (0, 0) Q := by
    intro j
    induction j with
    | zero =>
      intro c hc
      have e : c = w.length := by omega
      subst e
      refine rX10_length_4 ?_
      simp only [bX10_length_4, run, Nat.reduceAdd, lg, st1, st2, lkill, lset, fvv, sfv, kind3, cat1, retI, retA, List.length_cons, List.length_nil, true_and, and_true, or_true, true_or, qX10_length, List.take_zero, show wN [] = 1 from rfl, lg_cmp_le, show lN 1 ≤ 1 ↔ True from ⟨fun _ => trivial, fun _ => (pk_lLE (b := 1) (by decide) (by decide)).mpr (Nat.le_refl _)⟩, not_true_eq_false, not_false_eq_true, false_implies, true_and, and_true, tti]
      refine rX10_length_22 ?_
      simp only [bX10_length_22, run, Nat.reduceAdd, lg, st1, st2, lkill, lset, fvv, sfv, kind3, cat1, retI, retA, List.length_cons, List.length_nil, true_and, and_true, or_true, true_or, qX10_length]
      exact hq
    | succ j ih =>
      intro c hc
      have nx := ih (c + 1) (by omega)
      have h1 := wN_lt hw (j := j + 1) (by omega)
      have h2 := (wN_bd hw.2 (j + 1) (by omega)).1
      have h3 : 1 ≤ (16 : Nat) ^ j := Nat.pos_of_ne_zero (by simp)
      rw [Nat.pow_succ] at h2
      have h16 := hw.at j
      have e1 : wN (w.take (j + 1)) / 16 = wN (w.take j) := by
        rw [wN_take (by omega)]
        omega
      refine rX10_length_4 ?_
      simp only [bX10_length_4, run, Nat.reduceAdd, lg, st1, st2, lkill, lset, fvv, sfv, kind3, cat1, retI, retA, List.length_cons, List.length_nil, true_and, and_true, or_true, true_or, qX10_length, lg_cmp_le, show lN (wN (w.take (j + 1))) ≤ 1 ↔ False from ⟨fun q => by have := (pk_lLE (b := 1) (by omega) (by decide)).mp q; omega, False.elim⟩, ne_eq, show ¬ (16 : Int64) = 0 by decide, show lN (wN (w.take (j + 1))) / 16 = lN (wN (w.take j)) by rw [show (16 : Int64) = lN 16 from rfl, pk_lDiv (by omega) (by decide) (by decide), e1], nI_1, not_true_eq_false, not_false_eq_true, false_implies, true_and, and_true, tti]
      exact nx
  refine rX10_length_0 ?_
  simp only [bX10_length_0, run, Nat.reduceAdd, lg, st1, st2, lkill, lset, fvv, sfv, kind3, cat1, retI, retA, List.length_cons, List.length_nil, true_and, and_true, or_true, true_or, qX10_length]
  have z := lp w.length 0 (Nat.zero_add _)
  rw [wN_full] at z
  exact z
theorem e_mat {g : Gp} {w : List Nat} {p : Nat} {h : AH} {Q : PQ} (hw : Wok w) (hp : p < w.length) (hq : Q (.inl (some (vI (nI (w.getD p 0))))) h) : Ev g mX10_at [vL (wM w), vI (nI p)] h Q := by
  have w10 := hw.1
  refine nX10_at ?_
  have lp : ∀ d, p + d < w.length → Ex g mX10_at 10 [vL (wM w), vU, vI (nI p), vL (lN (wN (w.take (p + d + 1)))), vU, vI (nI (p + d))] [] h (0, 0) Q := by
    intro d
    induction d with
    | zero =>
      intro hd
      have h1 := wN_lt hw (j := p + 1) (by omega)
      have h16 := hw.at p
      have e1 : wN (w.take (p + 1)) % 16 = w.getD p 0 := by
        rw [wN_take (by omega)]
        omega
      refine rX10_at_10 ?_
      simp only [bX10_at_10, run, Nat.reduceAdd, lg, st1, st2, lkill, lset, fvv, sfv, kind3, cat1, retI, retA, List.length_cons, List.length_nil, true_and, and_true, or_true, true_or, qX10_at, Nat.add_zero, show nI p ≤ nI p ↔ True from ⟨fun _ => trivial, fun _ => nI_le (Nat.le_refl _) (by omega)⟩, not_true_eq_false, not_false_eq_true, false_implies, true_and, and_true, tti]
      refine rX10_at_28 ?_
      simp only [bX10_at_28, run, Nat.reduceAdd, lg, st1, st2, lkill, lset, fvv, sfv, kind3, cat1, retI, retA, List.length_cons, List.length_nil, true_and, and_true, or_true, true_or, qX10_at, ne_eq, show ¬ (16 : Int64) = 0 by decide, show lN (wN (w.take (p + 1))) - lN (wN (w.take (p + 1))) / 16 * 16 = lN (w.getD p 0) by rw [show (16 : Int64) = lN 16 from rfl, pk_lRem (by omega) (by decide) (by decide), e1], lN_i, not_true_eq_false, not_false_eq_true, false_implies, true_and, and_true, tti]
      exact hq
    | succ d ih =>
      intro hd
      have nx := ih (by omega)
      have h1 := wN_lt hw (j := p + d + 2) (by omega)
      have h16 := hw.at (p + d + 1)
      have e1 : wN (w.take (p + d + 2)) / 16 = wN (w.take (p + d + 1)) := by
        rw [wN_take (by omega)]
        omega
      refine rX10_at_10 ?_
      simp only [bX10_at_10, run, Nat.reduceAdd, lg, st1, st2, lkill, lset, fvv, sfv, kind3, cat1, retI, retA, List.length_cons, List.length_nil, true_and, and_true, or_true, true_or, qX10_at, show nI (p + (d + 1)) ≤ nI p ↔ False from ⟨nI_ge (by omega) (by omega), False.elim⟩, ne_eq, show ¬ (16 : Int64) = 0 by decide, show p + (d + 1) + 1 = p + d + 2 from rfl, show lN (wN (w.take (p + d + 2))) / 16 = lN (wN (w.take (p + d + 1))) by rw [show (16 : Int64) = lN 16 from rfl, pk_lDiv (by omega) (by decide) (by decide), e1], show nI (p + (d + 1)) + -1 = nI (p + d) from nI_dec _, not_true_eq_false, not_false_eq_true, false_implies, true_and, and_true, tti]
      exact nx
  refine rX10_at_0 ?_
  simp only [bX10_at_0, run, Nat.reduceAdd, lg, st1, st2, lkill, lset, fvv, sfv, kind3, cat1, retI, retA, List.length_cons, List.length_nil, true_and, and_true, or_true, true_or, qX10_at]
  refine sX10_at_3 (e_mlen hw ?_)
  simp only [cont, Option.toList, List.cons_append, List.nil_append]
  have z := lp (w.length - 1 - p) (by omega)
  rw [show p + (w.length - 1 - p) + 1 = w.length by omega, show p + (w.length - 1 - p) = w.length - 1 by omega, wN_full] at z
  obtain ⟨n, hn⟩ : ∃ n, w.length = n + 1 := ⟨w.length - 1, by omega⟩
  rw [hn, Nat.add_sub_cancel] at z
  rw [hn]
  refine rX10_at_6 ?_
  simp only [bX10_at_6, run, Nat.reduceAdd, lg, st1, st2, lkill, lset, fvv, sfv, kind3, cat1, retI, retA, List.length_cons, List.length_nil, true_and, and_true, or_true, true_or, qX10_at, show nI (n + 1) - 1 = nI n from nI_pred n, not_true_eq_false, not_false_eq_true, false_implies, true_and, and_true, tti]
  exact z
