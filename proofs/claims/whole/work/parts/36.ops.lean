/-! ===== the family's calls: what is built ===== -/
theorem FamB.kp2 {h h' : AH} {S : Nat → Prop} {f f' : Nat → Nat} {gv gv' : Nat → List Nat} {op op' : Nat} {D : HD} (w : Wf h) (k : Kp S h h') (hS : ∀ a, S a → dat a ∨ (6 ≤ a ∧ a ≤ 24) ∨ a = 4) (hr : ∀ a, a = 4 ∨ (48 ≤ a ∧ a ≤ 85) → zR h' a = zR h a) (sn : Sn h' f') (gr : GvR h' gv') (ho : zI h' 4 2 = bI op') (ho2 : op' ≤ 12) (x : FamB h f gv op D) : FamB h' f' gv' op' D := by
  have n6 : ∀ a, 6 ≤ a → a ≤ 24 → ¬ hk (zK h a) := fun a q1 q2 => by
    obtain ⟨-, ⟨⟨m1, m2, m3, m4, m5, m6⟩, m7, -⟩, -⟩ := x
    by_cases q3 : 8 ≤ a ∧ a ≤ 23
    · have := (m6 (a - 8) (by omega)).2.1
      rw [show 8 + (a - 8) = a by omega] at this
      rw [this]; unfold hk; decide
    · have : a = 6 ∨ a = 7 ∨ a = 24 := by omega
      rcases this with rfl | rfl | rfl
      · rw [m4]; unfold hk; decide
      · rw [m5]; unfold hk; decide
      · rw [m7]; unfold hk; decide
  have kh : Kh h h' := k.mono fun a _ q => by
    rcases hS a q with q | q | q
    · exact x.nhk q
    · exact n6 a q.1 q.2
    · rw [q, x.1.1.1]; unfold hk; decide
  have nS : ∀ a, ¬ (dat a ∨ (6 ≤ a ∧ a ≤ 24) ∨ a = 4) → ¬ S a := fun a q r => q (hS a r)
  obtain ⟨⟨⟨c1, c2⟩, a1, a1', a1''⟩, ⟨a2, a2'⟩, ⟨a3, a4⟩, ⟨a5, a6⟩, a7, a8, a9, a10⟩ := x
  have s29 := (kh.sm w a3.1 (Or.inr (Or.inr (Or.inl rfl)))).2
  have s37 := (kh.sm w a5.1 (Or.inr (Or.inr (Or.inl rfl)))).2
  have l1 := a4.kp w k (nS 31 (by unfold dat; omega))
  have l2 := a6.kp w k (nS 36 (by unfold dat; omega))
  refine ⟨⟨⟨k.kd w c1 (by decide), ?_⟩, ho, ho2, a1''⟩, ⟨sn, gr⟩, ⟨a3.kh w kh, l1.1⟩, ⟨a5.kh w kh, l2.1⟩, (a7.kp w k (nS 43 (by unfold dat; omega))).1, ?_, ?_, ?_⟩
  · rw [hr 4 (Or.inl rfl), s29.2.2.2, s37.2.2.2, l1.2, l2.2]
    exact c2
  · obtain ⟨x1, x2, x3, x4, x5, x6, x7, x8, x9, x10, x11, x12, x13⟩ := a8
    refine ⟨k.kd w x1 (by decide), ?_, ?_, ?_, ?_, ?_, ?_, k.kd w x8 (by decide), k.kd w x9 (by decide), k.kd w x10 (by decide), k.kd w x11 (by decide), k.kd w x12 (by decide), fun i hi => ⟨by rw [hr 51 (by omega)]; exact (x13 i hi).1, k.kd w (x13 i hi).2 (by decide)⟩⟩
    all_goals (rw [hr 48 (by omega)]; assumption)
  · obtain ⟨v1, v2⟩ := a9
    refine ⟨k.kd w v1 (by decide), fun i hi => ?_⟩
    obtain ⟨y1, y2, y3, y4⟩ := v2 i hi
    exact ⟨by rw [hr 65 (by omega)]; exact y1, k.kd w y2 (by decide), by rw [hr _ (by omega)]; exact y3, k.kd w y4 (by decide)⟩
  · have s86 := k.2.2 86 (w.lt a10.1 (by decide)) (nS 86 (by unfold dat; omega))
    exact ⟨k.kd w a10.1 (by decide), fun m hm => ⟨by rw [s86.2.2.2]; exact (a10.2 m hm).1, k.kd w (a10.2 m hm).2 (by decide)⟩⟩
/-- a call's frame -/
abbrev Fc (h h' : AH) : Prop := Kp (fun a => a < 99 ∨ hk (zK h a)) h h'
theorem Fc.tr {h1 h2 h3 : AH} (x : Fc h1 h2) (y : Fc h2 h3) : Fc h1 h3 := x.tr2 y fun a ha q => by
  rcases q with q | q
  · exact Or.inl q
  · rw [x.2.1 a ha] at q; exact Or.inr q
theorem Kp.fc {S : Nat → Prop} {h h' : AH} (x : Kp S h h') (hS : ∀ a, S a → a < 99) : Fc h h' := x.mono fun a _ q => Or.inl (hS a q)
theorem e_setSound {g : Gp} {x y : Int32} {h : AH} {Q : PQ} {f : Nat → Nat} {gv : Nat → List Nat} {op : Nat} {D : HD} (hf : FamR h f gv op D)
    (hq : ∀ s v, s < 16 → v < 64 → x = nI s → y = nI v → ∀ h', Fc h h' → FamR h' (fup f s v) gv op D → Q (.inl (some (vI (nI (f s))))) h')
    (hx : (inb x 16 && inb y 64) = false → ∀ n, zN h ≤ n → Q (.inr 2) (bump h n)) : Ev g mX9_setSound [vR 4, vI x, vI y] h Q := by
  have hb := hf.b
  have c1 := hb.1.1.1
  have c2 := hb.1.1.2.1
  refine nX9_setSound ?_
  refine Ex.wf (fun w => ?_)
  have bad : (inb x 16 && inb y 64) = false → Ex g mX9_setSound 22 [vR 4, vI x, vI y, vU] [vI 0] h (0, 0) Q := fun e =>
    sX9_setSound_22 (by decide) (e_refuseUnless (fun q => absurd rfl q) fun _ n hn => hx e n hn)
  refine rX9_setSound_0 ?_
  simp only [bX9_setSound_0, run, Nat.reduceAdd, lg, st1, st2, lkill, lset, fvv, sfv, kind3, cat1, retI, retA, List.length_cons, List.length_nil, true_and, and_true, or_true, true_or, qX9_setSound]
  refine sX9_setSound_1 (e_isSound ?_)
  simp only [cont, Option.toList, List.cons_append, List.nil_append]
  cases h1 : inb x 16 with
  | false =>
    refine rX9_setSound_4 ?_
    simp only [bX9_setSound_4, run, Nat.reduceAdd, lg, st1, st2, lkill, lset, fvv, sfv, kind3, cat1, retI, retA, List.length_cons, List.length_nil, true_and, and_true, or_true, true_or, qX9_setSound, show bi false = 0 from rfl, not_true_eq_false, not_false_eq_true, false_implies, true_and, and_true, tti]
    refine rX9_setSound_21 ?_
    simp only [bX9_setSound_21, run, Nat.reduceAdd, lg, st1, st2, lkill, lset, fvv, sfv, kind3, cat1, retI, retA, List.length_cons, List.length_nil, true_and, and_true, or_true, true_or, qX9_setSound]
    exact bad (by rw [h1]; rfl)
  | true =>
    refine rX9_setSound_4 ?_
    simp only [bX9_setSound_4, run, Nat.reduceAdd, lg, st1, st2, lkill, lset, fvv, sfv, kind3, cat1, retI, retA, List.length_cons, List.length_nil, true_and, and_true, or_true, true_or, qX9_setSound, show ¬ bi true = 0 by decide, not_true_eq_false, not_false_eq_true, false_implies, true_and, and_true, tti]
    have b2 : inb y 64 = false → Ex g mX9_setSound 21 [vR 4, vI x, vI y, vU] [] h (0, 0) Q := fun e => by
      refine rX9_setSound_21 ?_
      simp only [bX9_setSound_21, run, Nat.reduceAdd, lg, st1, st2, lkill, lset, fvv, sfv, kind3, cat1, retI, retA, List.length_cons, List.length_nil, true_and, and_true, or_true, true_or, qX9_setSound]
      exact bad (by rw [e, Bool.and_false])
    refine ⟨fun q => b2 (by simp [inb, q]), fun q => ⟨fun q2 => b2 ?_, fun q2 => ?_⟩⟩
    · have : nI 64 ≤ y := q2
      simp [inb, this]
    · have q3 : ¬ nI 64 ≤ y := q2
      have h2 : inb y 64 = true := by simp only [inb, q, q3, not_false_eq_true, decide_true, Bool.true_and]
      obtain ⟨s, hs, rfl⟩ := inb_t (by decide) h1
      obtain ⟨v, hv, rfl⟩ := inb_t (by decide) h2
      refine sX9_setSound_22 (by decide) (e_refuseUnless (fun _ => ?_) fun q => absurd q (by decide))
      simp only [cont, Option.toList, List.cons_append, List.nil_append]
      have sn := hb.2.1.1
      refine rX9_setSound_25 ?_
      simp only [bX9_setSound_25, run, Nat.reduceAdd, lg, st1, st2, lkill, lset, fvv, sfv, kind3, cat1, retI, retA, List.length_cons, List.length_nil, true_and, and_true, or_true, true_or, qX9_setSound, c1, c2, not_true_eq_false, not_false_eq_true, false_implies, true_and, and_true, tti]
      refine sX9_setSound_30 sn.1 (e_featuresOf sn hs ?_)
      simp only [cont, Option.toList, List.cons_append, List.nil_append]
      refine rX9_setSound_33 ?_
      simp only [bX9_setSound_33, run, Nat.reduceAdd, lg, st1, st2, lkill, lset, fvv, sfv, kind3, cat1, retI, retA, List.length_cons, List.length_nil, true_and, and_true, or_true, true_or, qX9_setSound, c1, c2, not_true_eq_false, not_false_eq_true, false_implies, true_and, and_true, tti]
      refine sX9_setSound_40 sn.1 (e_giveFeatures sn hs hv fun h2 k2 r2 l2 kp2 sn2 => ?_)
      simp only [cont, Option.toList, List.cons_append, List.nil_append]
      have fb2 : FamB h2 (fup f s v) gv op D := hb.kp2 w kp2 (fun a q => Or.inr (Or.inl ⟨q.1, by omega⟩)) (fun a _ => by rw [r2]) sn2 (hb.2.1.2.kp w kp2 (by decide)) (by rw [(kp2.2.2 4 (w.lt c1 (by decide)) (by decide)).1]; exact hb.1.2.1) hb.1.2.2.1
      refine rX9_setSound_43 ?_
      simp only [bX9_setSound_43, run, Nat.reduceAdd, lg, st1, st2, lkill, lset, fvv, sfv, kind3, cat1, retI, retA, List.length_cons, List.length_nil, true_and, and_true, or_true, true_or, qX9_setSound]
      refine sX9_setSound_44 fb2.lgs.1 (e_forgetAll fb2 fun h3 k3 r3 kp3 f3 => ?_)
      simp only [cont, Option.toList, List.cons_append, List.nil_append]
      refine rX9_setSound_47 ?_
      simp only [bX9_setSound_47, run, Nat.reduceAdd, lg, st1, st2, lkill, lset, fvv, sfv, kind3, cat1, retI, retA, List.length_cons, List.length_nil, true_and, and_true, or_true, true_or, qX9_setSound]
      exact hq s v hs hv rfl rfl h3 ((kp2.fc fun a q => by omega).tr (kp3.fc fun a q => by omega)) f3
