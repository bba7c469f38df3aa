/-! ===== the family's own questions ===== -/
/-- all but what is remembered of words and costs -/
def FamB (h : AH) (f : Nat → Nat) (gv : Nat → List Nat) (op : Nat) (D : HD) : Prop :=
  (FamF h ∧ zI h 4 2 = bI op ∧ op ≤ 12 ∧ hdOk D) ∧ (Sn h f ∧ GvR h gv) ∧ (HsR h 29 D ∧ LxS h 31 32) ∧ (HsR h 37 (noL D) ∧ LxS h 36 39) ∧ LxS h 43 44 ∧ AlS h ∧ VtS h ∧ KcS h
theorem FamR.b {h : AH} {f : Nat → Nat} {gv : Nat → List Nat} {op : Nat} {D : HD} (x : FamR h f gv op D) : FamB h f gv op D := by
  obtain ⟨a1, a2, ⟨a3, a4, -⟩, ⟨a5, a6, -⟩, a7, a8, a9, a10, -⟩ := x
  exact ⟨a1, a2, ⟨a3, a4⟩, ⟨a5, a6⟩, a7, a8, a9, a10⟩
theorem FamB.r {h : AH} {f : Nat → Nat} {gv : Nat → List Nat} {op : Nat} {D : HD} (x : FamB h f gv op D) (y : LxR h 31 32 D f gv) (z : LxR h 36 39 (noL D) f gv) (v : KcR h f gv D) : FamR h f gv op D := by
  obtain ⟨a1, a2, ⟨a3, a4⟩, ⟨a5, a6⟩, a7, a8, a9, a10⟩ := x
  exact ⟨a1, a2, ⟨a3, y⟩, ⟨a5, z⟩, a7, a8, a9, a10, v⟩
/-- cells of numbers, and what holds them -/
def dat (a : Nat) : Prop := (32 ≤ a ∧ a ≤ 35) ∨ (39 ≤ a ∧ a ≤ 42) ∨ (44 ≤ a ∧ a ≤ 85) ∨ (87 ≤ a ∧ a ≤ 98)
theorem dat_lx {h : AH} {x b a : Nat} (l : LxS h x b) (h1 : b ≤ a) (h2 : a ≤ b + 3) : ¬ hk (zK h a) := by
  obtain ⟨a1, a2, a3, a4, a5, a6, a7, a8, a9, a10, a11, a12, a13⟩ := l
  have : a = b ∨ a = b + 1 ∨ a = b + 2 ∨ a = b + 3 := by omega
  rcases this with rfl | rfl | rfl | rfl
  · rw [a8]; unfold hk; decide
  · rw [a9]; unfold hk; decide
  · rw [a10]; unfold hk; decide
  · rw [a11]; unfold hk; decide
theorem FamB.nhk {h : AH} {f : Nat → Nat} {gv : Nat → List Nat} {op : Nat} {D : HD} (x : FamB h f gv op D) {a : Nat} (ha : dat a) : ¬ hk (zK h a) := by
  obtain ⟨-, -, ⟨-, a4⟩, ⟨-, a6⟩, a7, a8, a9, a10⟩ := x
  rcases ha with q | q | q | q
  · exact dat_lx a4 q.1 q.2
  · exact dat_lx a6 q.1 q.2
  · by_cases q1 : a ≤ 47
    · exact dat_lx a7 q.1 q1
    · by_cases q2 : a ≤ 64
      · obtain ⟨x1, -, -, -, -, -, -, x8, x9, x10, x11, x12, x13⟩ := a8
        by_cases q3 : 52 ≤ a ∧ a ≤ 62
        · have := (x13 (a - 52) (by omega)).2
          rw [show 52 + (a - 52) = a by omega] at this
          rw [this]; unfold hk; decide
        · have : a = 48 ∨ a = 49 ∨ a = 50 ∨ a = 51 ∨ a = 63 ∨ a = 64 := by omega
          rcases this with rfl | rfl | rfl | rfl | rfl | rfl
          · rw [x1]; unfold hk; decide
          · rw [x8]; unfold hk; decide
          · rw [x9]; unfold hk; decide
          · rw [x10]; unfold hk; decide
          · rw [x11]; unfold hk; decide
          · rw [x12]; unfold hk; decide
      · obtain ⟨v1, v2⟩ := a9
        by_cases q3 : a = 65
        · rw [q3, v1]; unfold hk; decide
        · obtain ⟨-, y2, -, y4⟩ := v2 ((a - 66) / 2) (by omega)
          have : a = 66 + 2 * ((a - 66) / 2) ∨ a = 67 + 2 * ((a - 66) / 2) := by omega
          rcases this with e | e
          · rw [e, y2]; unfold hk; decide
          · rw [e, y4]; unfold hk; decide
  · have := (a10.2 (a - 87) (by omega)).2
    rw [show 87 + (a - 87) = a by omega] at this
    rw [this]; unfold hk; decide
theorem FamB.kp {h h' : AH} {S : Nat → Prop} {f : Nat → Nat} {gv : Nat → List Nat} {op : Nat} {D : HD} (w : Wf h) (k : Kp S h h') (hS : ∀ a, S a → dat a) (hr : ∀ a, 48 ≤ a → a ≤ 85 → zR h' a = zR h a) (x : FamB h f gv op D) : FamB h' f gv op D := by
  have kh : Kh h h' := k.mono fun a _ q => x.nhk (hS a q)
  have nS : ∀ a, ¬ dat a → ¬ S a := fun a q r => q (hS a r)
  obtain ⟨⟨⟨c1, c2⟩, a1, a1', a1''⟩, ⟨a2, a2'⟩, ⟨a3, a4⟩, ⟨a5, a6⟩, a7, a8, a9, a10⟩ := x
  have d4 : ¬ S 4 := nS 4 (by unfold dat; omega)
  have s4 := k.2.2 4 (w.lt c1 (by decide)) d4
  have s29 := (kh.sm w a3.1 (Or.inr (Or.inr (Or.inl rfl)))).2
  have s37 := (kh.sm w a5.1 (Or.inr (Or.inr (Or.inl rfl)))).2
  have l1 := a4.kp w k (nS 31 (by unfold dat; omega))
  have l2 := a6.kp w k (nS 36 (by unfold dat; omega))
  refine ⟨⟨⟨k.kd w c1 (by decide), ?_⟩, by rw [s4.1]; exact a1, a1', a1''⟩, ⟨a2.kp w k fun a q1 q2 => nS a (by unfold dat; omega), a2'.kp w k (nS 24 (by unfold dat; omega))⟩, ⟨a3.kh w kh, l1.1⟩, ⟨a5.kh w kh, l2.1⟩, (a7.kp w k (nS 43 (by unfold dat; omega))).1, ?_, ?_, ?_⟩
  · rw [s4.2.2.2, s29.2.2.2, s37.2.2.2, l1.2, l2.2]
    exact c2
  · obtain ⟨x1, x2, x3, x4, x5, x6, x7, x8, x9, x10, x11, x12, x13⟩ := a8
    refine ⟨k.kd w x1 (by decide), ?_, ?_, ?_, ?_, ?_, ?_, k.kd w x8 (by decide), k.kd w x9 (by decide), k.kd w x10 (by decide), k.kd w x11 (by decide), k.kd w x12 (by decide), fun i hi => ⟨by rw [hr 51 (by omega) (by omega)]; exact (x13 i hi).1, k.kd w (x13 i hi).2 (by decide)⟩⟩
    all_goals (rw [hr 48 (by omega) (by omega)]; assumption)
  · obtain ⟨v1, v2⟩ := a9
    refine ⟨k.kd w v1 (by decide), fun i hi => ?_⟩
    obtain ⟨y1, y2, y3, y4⟩ := v2 i hi
    exact ⟨by rw [hr 65 (by omega) (by omega)]; exact y1, k.kd w y2 (by decide), by rw [hr _ (by omega) (by omega)]; exact y3, k.kd w y4 (by decide)⟩
  · have s86 := k.2.2 86 (w.lt a10.1 (by decide)) (nS 86 (by unfold dat; omega))
    exact ⟨k.kd w a10.1 (by decide), fun m hm => ⟨by rw [s86.2.2.2]; exact (a10.2 m hm).1, k.kd w (a10.2 m hm).2 (by decide)⟩⟩
def bi (b : Bool) : Int32 := if b then 1 else 0
theorem bi_0 {b : Bool} : bi b = 0 ↔ b = false := by cases b <;> decide
def inb (x : Int32) (n : Nat) : Bool := decide (¬ x < 0) && decide (¬ nI n ≤ x)
theorem inb_t {x : Int32} {n : Nat} (hn : n < 2 ^ 31) (h : inb x n = true) : ∃ j, j < n ∧ x = nI j := by
  simp only [inb, Bool.and_eq_true, decide_eq_true_eq] at h
  obtain ⟨j, hj, e⟩ := nI_of h.1
  refine ⟨j, Nat.lt_of_not_le fun q => h.2 ?_, e⟩
  rw [e]
  exact nI_le q hj
theorem inb_n {j n : Nat} (hj : j < 2 ^ 31) (hn : n < 2 ^ 31) : inb (nI j) n = decide (j < n) := by
  unfold inb
  have h1 : ¬ nI j < 0 := nI_pos hj
  have h2 : nI n ≤ nI j ↔ n ≤ j := nI_leI hn hj
  simp only [h1, h2, not_false_eq_true, decide_true, Bool.true_and, Nat.not_le]
theorem e_isSound {g : Gp} {x : Int32} {h : AH} {Q : PQ} (hq : Q (.inl (some (vI (bi (inb x 16))))) h) : Ev g mX9_isSound [vI x] h Q := by
  refine nX9_isSound ?_
  have no : inb x 16 = false → Ex g mX9_isSound 14 [vI x] [] h (0, 0) Q := fun e => by
    rw [e] at hq
    refine rX9_isSound_14 ?_
    simp only [bX9_isSound_14, run, Nat.reduceAdd, lg, st1, st2, lkill, lset, fvv, sfv, kind3, cat1, retI, retA, List.length_cons, List.length_nil, true_and, and_true, or_true, true_or, qX9_isSound]
    exact hq
  refine rX9_isSound_0 ?_
  simp only [bX9_isSound_0, run, Nat.reduceAdd, lg, st1, st2, lkill, lset, fvv, sfv, kind3, cat1, retI, retA, List.length_cons, List.length_nil, true_and, and_true, or_true, true_or, qX9_isSound]
  refine ⟨fun q => no (by simp [inb, q]), fun q => ⟨fun q2 => no ?_, fun q2 => ?_⟩⟩
  · have : nI 16 ≤ x := q2
    simp [inb, this]
  · have q3 : ¬ nI 16 ≤ x := q2
    have : inb x 16 = true := by simp only [inb, q, q3, not_false_eq_true, decide_true, Bool.true_and]
    rw [this] at hq
    exact hq
