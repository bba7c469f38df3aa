/-! ===== what is added to the lists ===== -/
/-- a list of languages, laws or loans is written to: all else of the family stays -/
def lsK (k : Nat × Nat) : Prop := k = (1, 0) ∨ k.1 = 6
theorem FamB.kpL {h h' : AH} {S : Nat → Prop} {f : Nat → Nat} {gv : Nat → List Nat} {op : Nat} {D D' : HD} (w : Wf h) (k : Kp S h h') (hS : ∀ a, a < zN h → S a → lsK (zK h a)) (x : FamB h f gv op D)
    (y1 : LgsR h' 25 D'.1 D'.2.1 D'.2.2.1) (y2 : LnsR h' 30 D'.2.2.2) (y3 : LnsR h' 38 []) (y4 : hdOk D') (y5 : Sep h' D'.1) : FamB h' f gv op D' := by
  obtain ⟨⟨⟨c1, c2⟩, a1, a1', -, -⟩, ⟨a2, a2'⟩, ⟨a3, a4⟩, ⟨a5, a6⟩, a7, a8, a9, a10⟩ := x
  have nS : ∀ {a t n}, zK h a = (t, n) → t ≠ 0 → ¬ lsK (t, n) → ¬ S a := fun q1 q2 q3 q4 => q3 (by rw [← q1]; exact hS _ (w.lt q1 q2) q4)
  have n1 : ∀ {n}, n ≠ 0 → ¬ lsK (1, n) := fun q r => by
    rcases r with r | r
    · exact q (Prod.mk.inj r).2
    · exact absurd r (by simp)
  have n2 : ∀ {t n}, t ≠ 1 → t ≠ 6 → ¬ lsK (t, n) := fun q1 q2 r => by
    rcases r with r | r
    · exact q1 (Prod.mk.inj r).1
    · exact q2 r
  have s4 := k.2.2 4 (w.lt c1 (by decide)) (nS c1 (by decide) (n1 (by decide)))
  have s29 := k.2.2 29 (w.lt a3.1 (by decide)) (nS a3.1 (by decide) (n1 (by decide)))
  have s37 := k.2.2 37 (w.lt a5.1 (by decide)) (nS a5.1 (by decide) (n1 (by decide)))
  have l1 := a4.kp w k (nS a4.1 (by decide) (n1 (by decide)))
  have l2 := a6.kp w k (nS a6.1 (by decide) (n1 (by decide)))
  have c2' := c2
  obtain ⟨-, -, -, -, -, -, -, -, -, r1, r2, r3, r4, -, -⟩ := c2'
  refine ⟨⟨⟨k.kd w c1 (by decide), ?_⟩, by rw [s4.1]; exact a1, a1', y4, y5⟩, ⟨?_, ?_⟩, ⟨⟨k.kd w a3.1 (by decide), by rw [s29.2.2.2, r1]; exact y1, by rw [s29.2.2.2, r2]; exact y2⟩, l1.1⟩, ⟨⟨k.kd w a5.1 (by decide), by rw [s37.2.2.2, r3]; exact y1, by rw [s37.2.2.2, r4]; exact y3⟩, l2.1⟩, (a7.kp w k (nS a7.1 (by decide) (n1 (by decide)))).1, ?_, ?_, ?_⟩
  · rw [s4.2.2.2, s29.2.2.2, s37.2.2.2, l1.2, l2.2]
    exact c2
  · refine a2.kp w k fun a q1 q2 => ?_
    obtain ⟨m1, m2, m3, m4, m5, m6⟩ := a2
    by_cases q3 : 8 ≤ a
    · have := (m6 (a - 8) (by omega)).2.1
      rw [show 8 + (a - 8) = a by omega] at this
      exact nS this (by decide) (n2 (by decide) (by decide))
    · have : a = 5 ∨ a = 6 ∨ a = 7 := by omega
      rcases this with rfl | rfl | rfl
      · exact nS m1 (by decide) (n1 (by decide))
      · exact nS m4 (by decide) (n2 (by decide) (by decide))
      · exact nS m5 (by decide) (n2 (by decide) (by decide))
  · exact a2'.kp w k (nS a2'.1 (by decide) (n2 (by decide) (by decide)))
  · exact a8.kp w k ⟨nS a8.1 (by decide) (n1 (by decide)), nS a8.2.2.2.2.2.2.2.2.2.1 (by decide) (n2 (by decide) (by decide))⟩
  · exact a9.kp w k ⟨nS a9.1 (by decide) (n2 (by decide) (by decide)), fun i hi => nS (a9.2 i hi).2.1 (by decide) (n1 (by decide))⟩
  · have s86 := k.2.2 86 (w.lt a10.1 (by decide)) (nS a10.1 (by decide) (n2 (by decide) (by decide)))
    exact ⟨k.kd w a10.1 (by decide), fun m hm => ⟨by rw [s86.2.2.2]; exact (a10.2 m hm).1, k.kd w (a10.2 m hm).2 (by decide)⟩⟩
theorem LsR.keep {S : Nat → Prop} {h h' : AH} (w : Wf h) (k : Kp S h h') {a e : Nat} {xs : List Nat} (hl : LsR h a e xs) (h1 : ¬ S a) (h2 : e = 2 ∨ ¬ S e) : LsR h' a e xs := by
  obtain ⟨l1, l2, l3, l4⟩ := hl
  have s := k.2.2 a (w.lt l1 (by decide)) h1
  refine ⟨k.kd w l1 (by decide), by rw [s.1]; exact l2, by rw [s.2.2.2]; exact l3, l4.imp id ?_⟩
  rintro ⟨cap, c1, c2, c3, c4⟩
  have h2' : ¬ S e := h2.elim (fun q => by have := w.ge c1 (by decide); omega) id
  have t := k.2.2 e (w.lt c1 (by decide)) h2'
  exact ⟨cap, k.kd w c1 (by decide), c2, c3, fun i hi => by rw [t.2.2.2]; exact c4 i hi⟩
theorem LgR.keep {S : Nat → Prop} {h h' : AH} (w : Wf h) (k : Kp S h h') (hS : ∀ a, a < zN h → S a → lsK (zK h a)) {y p : Nat} {ws : List Lw} (hl : LgR h y p ws) (h1 : ¬ S (zR h y 1)) (h2 : zR h (zR h y 1) 1 = 2 ∨ ¬ S (zR h (zR h y 1) 1)) : LgR h' y p ws := by
  obtain ⟨a1, a2, e, ys, a3, a4, a5⟩ := hl
  have ny : ¬ S y := fun q => by
    have := hS y (w.lt a1 (by decide)) q
    rw [a1] at this
    rcases this with r | r <;> simp at r
  have s := k.2.2 y (w.lt a1 (by decide)) ny
  rw [a3.2.2.1] at h2
  refine ⟨k.kd w a1 (by decide), by rw [s.1]; exact a2, e, ys, by rw [s.2.2.2]; exact a3.keep w k h1 h2, a4, fun i hi => (a5 i hi).kp1 w k fun q => ?_⟩
  have q1 := (a5 i hi).2.1
  have := hS _ (w.lt q1 (by decide)) q
  rw [q1] at this
  rcases this with r | r <;> simp at r
theorem LnR.keep {S : Nat → Prop} {h h' : AH} (w : Wf h) (k : Kp S h h') (hS : ∀ a, a < zN h → S a → lsK (zK h a)) {y : Nat} {v : Ln} (hl : LnR h y v) : LnR h' y v := by
  obtain ⟨h1, h2, h3, h4, h5⟩ := hl
  have ny : ¬ S y := fun q => by
    have := hS y (w.lt h1 (by decide)) q
    rw [h1] at this
    rcases this with r | r <;> simp at r
  have s := k.2.2 y (w.lt h1 (by decide)) ny
  exact ⟨k.kd w h1 (by decide), by rw [s.1]; exact h2, by rw [s.1]; exact h3, by rw [s.1]; exact h4, by rw [s.1]; exact h5⟩
/-- lists stay apart when one of them has a new row, and one list comes to them -/
theorem Sep.mk {h h' : AH} {n n' a0 w : Nat} (x : Sep h n)
    (hA : ∀ l, l < n' → (l < n ∧ lwA h' l = lwA h l) ∨ (l = n ∧ lwA h' l = w ∧ zR h' w 1 = 2 ∧ w ≠ 25 ∧ w ≠ 30 ∧ w ≠ 38 ∧ ∀ k, k < n → lwA h k ≠ w))
    (hR : ∀ a, isL h n a → a ≠ a0 → zR h' a 1 = zR h a 1) (h0 : zR h' a0 1 = zR h a0 1 ∨ ∀ a, isL h n a → zR h a 1 ≠ zR h' a0 1) : Sep h' n' := by
  obtain ⟨x1, x2, x3⟩ := x
  have il : ∀ a, isL h' n' a → isL h n a ∨ (a = w ∧ zR h' w 1 = 2) := fun a q => by
    rcases q with q | q | ⟨l, q, q2⟩
    · exact Or.inl (Or.inl q)
    · exact Or.inl (Or.inr (Or.inl q))
    · rcases hA l q with ⟨t1, t2⟩ | ⟨t1, t2, t3, -⟩
      · exact Or.inl (Or.inr (Or.inr ⟨l, t1, by rw [q2, t2]⟩))
      · exact Or.inr ⟨by rw [q2, t2], t3⟩
  refine ⟨fun l k a b e => ?_, fun l a => ?_, fun a b ia ib e ne => ?_⟩
  · rcases hA l a with ⟨t1, t2⟩ | ⟨t1, t2, t3, t4, t5, t6, t7⟩ <;> rcases hA k b with ⟨u1, u2⟩ | ⟨u1, u2, u3, u4, u5, u6, u7⟩
    · rw [t2, u2] at e; exact x1 l k t1 u1 e
    · rw [t2, u2] at e; exact absurd e (u7 l t1)
    · rw [t2, u2] at e; exact absurd e.symm (t7 k u1)
    · omega
  · rcases hA l a with ⟨t1, t2⟩ | ⟨t1, t2, t3, t4, t5, t6, t7⟩
    · rw [t2]; exact x2 l t1
    · rw [t2]; exact ⟨t4, t5, t6⟩
  · rcases il a ia with ja | ⟨ja, ka⟩
    · rcases il b ib with jb | ⟨jb, kb⟩
      · by_cases ea : a = a0
        · by_cases eb : b = a0
          · rw [ea, eb]
          · rw [hR b jb eb, ea] at e
            rcases h0 with h0 | h0
            · rw [ea, h0] at ne
              rw [h0] at e
              rw [ea]
              exact x3 a0 b (ea ▸ ja) jb e ne
            · exact absurd e.symm (h0 b jb)
        · by_cases eb : b = a0
          · rw [hR a ja ea, eb] at e
            rcases h0 with h0 | h0
            · rw [hR a ja ea] at ne
              rw [h0] at e
              rw [eb]
              exact x3 a a0 ja (eb ▸ jb) e ne
            · exact absurd e (h0 a ja)
          · rw [hR a ja ea] at e ne
            rw [hR b jb eb] at e
            exact x3 a b ja jb e ne
      · rw [e, jb, kb] at ne; exact absurd rfl ne
    · rw [ja, ka] at ne; exact absurd rfl ne
