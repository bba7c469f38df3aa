def addN (D : HD) (n : Ln) : HD := (D.1, D.2.1, D.2.2.1, D.2.2.2 ++ [n])
theorem addN_ok {D : HD} {n : Ln} (h : hdOk D) (h8 : D.2.2.2.length < 12) (hn : n.1 < 12 ∧ n.2.1 < n.2.2.1 ∧ n.2.2.1 < D.1 ∧ n.2.2.2 ≤ 8) : hdOk (addN D n) := by
  obtain ⟨h1, h2, h3, h4, h5, h6⟩ := h
  refine ⟨h1, h2, h3, h4, ?_, fun i hi => ?_⟩
  · show (D.2.2.2 ++ [n]).length ≤ 12
    rw [List.length_append]; simp; omega
  · show ((D.2.2.2 ++ [n]).getD i w0).1 < 12 ∧ ((D.2.2.2 ++ [n]).getD i w0).2.1 < ((D.2.2.2 ++ [n]).getD i w0).2.2.1 ∧ ((D.2.2.2 ++ [n]).getD i w0).2.2.1 < D.1 ∧ ((D.2.2.2 ++ [n]).getD i w0).2.2.2 ≤ 8
    have hi' : i < (D.2.2.2 ++ [n]).length := hi
    rw [List.length_append] at hi'
    have hi2 : i < D.2.2.2.length + 1 := hi'
    rw [getD_snocG]
    by_cases e : i = D.2.2.2.length
    · rw [if_pos e]; exact hn
    · rw [if_neg e]; exact h6 i (by omega)
theorem FamB.setLoans {h1 h2 : AH} {f : Nat → Nat} {gv : Nat → List Nat} {op e' : Nat} {D D' : HD} (w1 : Wf h1) (hb1 : FamB h1 f gv op D) (hD' : hdOk D') (e1 : D'.1 = D.1) (e2 : D'.2.1 = D.2.1) (e3 : D'.2.2.1 = D.2.2.1)
    (kp2 : Kp (fun b => b = 30 ∨ b = zR h1 30 1 ∧ zR h1 30 1 ≠ 2) h1 h2) (ln2 : LnsR h2 30 D'.2.2.2) (he : zR h2 30 1 = e') (he2 : e' = zR h1 30 1 ∨ e' = zN h1) : FamB h2 f gv op D' := by
  have sep := hb1.1.2.2.2.2
  have il : isL h1 D.1 30 := Or.inr (Or.inl rfl)
  obtain ⟨ka, ke⟩ := hb1.isLk il
  have hS : ∀ a, a < zN h1 → (a = 30 ∨ a = zR h1 30 1 ∧ zR h1 30 1 ≠ 2) → lsK (zK h1 a) := fun a _ q => by
    rcases q with q | ⟨q, q2⟩
    · rw [q]; exact Or.inl ka
    · rcases ke with q3 | ⟨cap, q3⟩
      · exact absurd q3 q2
      · rw [q, q3]; exact Or.inr rfl
  have old : ∀ a, zK h1 a = (1, 0) → a ≠ 30 → ¬ (a = 30 ∨ a = zR h1 30 1 ∧ zR h1 30 1 ≠ 2) := fun a q q2 r => by
    rcases r with r | ⟨r, r2⟩
    · exact q2 r
    · rcases ke with q3 | ⟨cap, q3⟩
      · exact r2 q3
      · rw [r, q3] at q; simp at q
  have rows : ∀ a, isL h1 D.1 a → a ≠ 30 → zR h1 a 1 = 2 ∨ ¬ (zR h1 a 1 = 30 ∨ zR h1 a 1 = zR h1 30 1 ∧ zR h1 30 1 ≠ 2) := fun a ia na => by
    by_cases q : zR h1 a 1 = 2
    · exact Or.inl q
    · refine Or.inr fun r => ?_
      rcases r with r | ⟨r, r2⟩
      · rcases (hb1.isLk ia).2 with q3 | ⟨cap, q3⟩
        · exact q q3
        · rw [r, ka] at q3; simp at q3
      · exact na (sep.2.2 a _ ia il r q)
  obtain ⟨-, -, -, -, e, xs, c5, c6, c7⟩ := hb1.lgs
  have e25 : zR h1 25 1 = e := c5.2.2.1
  have lwa : ∀ l, l < D.1 → lwA h1 l = zR h1 (xs.getD l 0) 1 := fun l hl => by
    unfold lwA
    rw [e25]
    rcases c5.2.2.2 with ⟨-, q⟩ | ⟨cap, q, -, -, q2⟩
    · rw [q] at c6; simp at c6; omega
    · rw [q2 l (by omega)]
  have r25 := rows 25 (Or.inl rfl) (by decide)
  rw [e25] at r25
  have l25 := c5.keep w1 kp2 (old 25 c5.1 (by decide)) r25
  have cellS : ∀ k, k < D.1 → Sm h1 h2 (xs.getD k 0) := fun k hk => by
    have kl := (c7 k hk).1
    refine kp2.2.2 _ (w1.lt kl (by decide)) fun q => ?_
    have := hS _ (w1.lt kl (by decide)) q
    rw [kl] at this
    rcases this with r | r <;> simp at r
  have ll : ∀ k, k < D.1 → lwA h2 k = lwA h1 k := fun k hk => by
    rw [lwa k hk]
    unfold lwA
    rw [l25.2.2.1]
    rcases l25.2.2.2 with ⟨-, q⟩ | ⟨cap, q, -, -, q2⟩
    · rw [q] at c6; simp at c6; omega
    · rw [q2 k (by omega), (cellS k hk).2.2.2]
  refine hb1.kpL w1 kp2 hS ?_ ln2 ?_ hD' ?_
  · rw [e1, e2, e3]
    refine ⟨e, xs, l25, c6, fun k hk => ?_⟩
    have nk := (sep.2.1 k hk).2.1
    refine (c7 k hk).keep w1 kp2 hS ?_ ?_
    · rw [← lwa k hk]; exact old _ (hb1.lw hk).1 nk
    · rw [← lwa k hk]; exact rows _ (Or.inr (Or.inr ⟨k, hk, rfl⟩)) nk
  · obtain ⟨e9, zs, d1, d2, d3⟩ := hb1.l38
    have ez : zs = [] := List.length_eq_zero_iff.mp d2
    subst ez
    have n38 := kp2.2.2 38 (w1.lt d1.1 (by decide)) (old 38 d1.1 (by decide))
    refine ⟨e9, [], ⟨kp2.kd w1 d1.1 (by decide), by rw [n38.1]; exact d1.2.1, by rw [n38.2.2.2]; exact d1.2.2.1, ?_⟩, rfl, fun i hi => absurd hi (by simp)⟩
    rcases d1.2.2.2 with q | ⟨cap, q1, q2, q3, q4⟩
    · exact Or.inl q
    · exact Or.inr ⟨cap, kp2.kd w1 q1 (by decide), q2, q3, fun i hi => absurd hi (by simp)⟩
  · rw [e1]
    refine Sep.mk (n := D.1) (a0 := 30) (w := 0) sep (fun k hk => Or.inl ⟨hk, ll k hk⟩) (fun a ia na => ?_) ?_
    · have ka' := (hb1.isLk ia).1
      rw [(kp2.2.2 a (w1.lt ka' (by decide)) (old a ka' na)).2.2.2]
    · rw [he]
      rcases he2 with q | q
      · exact Or.inl q
      · refine Or.inr fun a ia r => ?_
        rw [q] at r
        rcases (hb1.isLk ia).2 with r2 | ⟨cap, r2⟩
        · have := w1.1; omega
        · have := w1.lt r2 (by decide); omega
