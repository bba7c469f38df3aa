/-! ===== the law: frames ===== -/
theorem ModR.kp {S : Nat → Prop} {h h' : AH} {f : Nat → Nat} {gv : Nat → List Nat} {op : Nat} {D : HD} (w : Wf h) (x : ModR h f gv op D) (y : Kp S h h') (hS : ∀ a, 99 ≤ a → a ≤ 121 → ¬ S a) : ModR h' f gv op D := by
  have x1 := x.1
  have sm : ∀ a, 99 ≤ a → a ≤ 121 → Sm h h' a := fun a h1 h2 => y.2.2 a (x1.lt w h2) (hS a h1 h2)
  have s99 := sm 99 (by decide) (by decide)
  obtain ⟨x1, x2, x3, x4, ⟨z1, z2, z3, z4, z5⟩, x6, x7, x8⟩ := x
  refine ⟨x1.keep w y s99.2.2.2, by rw [s99.1]; exact x2, ?_, ?_, ⟨by rw [s99.1]; exact z1, by rw [s99.1]; exact z2, ?_, ?_, ?_⟩, ?_, ?_, x8⟩
  · unfold SnM; rw [(sm 100 (by decide) (by decide)).1]; exact x3
  · unfold GvM; rw [(sm 101 (by decide) (by decide)).2.1]; exact x4
  · rw [(sm 102 (by decide) (by decide)).1]; exact z3
  · unfold LwM
    rw [(sm 103 (by decide) (by decide)).1, (sm 104 (by decide) (by decide)).1, (sm 105 (by decide) (by decide)).1, (sm 106 (by decide) (by decide)).1, (sm 107 (by decide) (by decide)).1]
    exact z4
  · unfold LnM
    rw [(sm 108 (by decide) (by decide)).1, (sm 109 (by decide) (by decide)).1, (sm 110 (by decide) (by decide)).1, (sm 111 (by decide) (by decide)).1, (sm 112 (by decide) (by decide)).1]
    exact z5
  · rw [(sm 103 (by decide) (by decide)).1]; exact x6
  · rw [(sm 112 (by decide) (by decide)).1]; exact x7
theorem FamR.kz {S : Nat → Prop} {h h' : AH} {f : Nat → Nat} {gv : Nat → List Nat} {op : Nat} {D : HD} (w : Wf h) (hn : 99 ≤ zN h) (x : FamR h f gv op D) (k : Kp S h h') (hS : ∀ a, a < zN h → S a → 99 ≤ a ∧ ¬ hk (zK h a)) : FamR h' f gv op D := by
  have kh : Kh h h' := k.mono fun a q1 q2 => (hS a q1 q2).2
  have k : Kp (fun a => 99 ≤ a) h h' := k.mono fun a q1 q2 => (hS a q1 q2).1
  have hr : ∀ a, a < 99 → Sm h h' a := fun a q => k.2.2 a (by omega) (by omega)
  obtain ⟨⟨⟨c1, c2⟩, a1, a1', a1'', a1s⟩, ⟨a2, a2'⟩, ⟨a3, a4, l1⟩, ⟨a5, a6, l2⟩, a7, a8, a9, a10, kc⟩ := x
  have sep : Sep h' D.1 := by
    obtain ⟨-, t1, t2⟩ := a3
    rw [c2.2.2.2.2.2.2.2.2.2.1] at t1
    rw [c2.2.2.2.2.2.2.2.2.2.2.1] at t2
    exact a1s.kh w kh t1 t2
  have s4 := hr 4 (by decide)
  have s29 := hr 29 (by decide)
  have s37 := hr 37 (by decide)
  have p1 := a4.kp w k (by decide)
  have p2 := a6.kp w k (by decide)
  refine ⟨⟨⟨k.kd w c1 (by decide), ?_⟩, by rw [s4.1]; exact a1, a1', a1'', sep⟩, ⟨a2.kp w k fun a q1 q2 => by omega, a2'.kp w k (by decide)⟩, ⟨a3.kh w kh, p1.1, ?_⟩, ⟨a5.kh w kh, p2.1, ?_⟩, (a7.kp w k (by decide)).1, ?_, ?_, ?_, ?_⟩
  · rw [s4.2.2.2, s29.2.2.2, s37.2.2.2, p1.2, p2.2]
    exact c2
  · unfold CR
    rw [(hr (32 + 3) (by decide)).1, (hr 32 (by decide)).2.1, (hr (32 + 1) (by decide)).1, (hr (32 + 2) (by decide)).1]
    exact l1
  · unfold CR
    rw [(hr (39 + 3) (by decide)).1, (hr 39 (by decide)).2.1, (hr (39 + 1) (by decide)).1, (hr (39 + 2) (by decide)).1]
    exact l2
  · obtain ⟨x1, x2, x3, x4, x5, x6, x7, x8, x9, x10, x11, x12, x13⟩ := a8
    refine ⟨k.kd w x1 (by decide), ?_, ?_, ?_, ?_, ?_, ?_, k.kd w x8 (by decide), k.kd w x9 (by decide), k.kd w x10 (by decide), k.kd w x11 (by decide), k.kd w x12 (by decide), fun i hi => ⟨by rw [(hr 51 (by omega)).2.2.2]; exact (x13 i hi).1, k.kd w (x13 i hi).2 (by decide)⟩⟩
    all_goals (rw [(hr 48 (by omega)).2.2.2]; assumption)
  · obtain ⟨v1, v2⟩ := a9
    refine ⟨k.kd w v1 (by decide), fun i hi => ?_⟩
    obtain ⟨y1, y2, y3, y4⟩ := v2 i hi
    exact ⟨by rw [(hr 65 (by omega)).2.2.2]; exact y1, k.kd w y2 (by decide), by rw [(hr _ (by omega)).2.2.2]; exact y3, k.kd w y4 (by decide)⟩
  · exact ⟨k.kd w a10.1 (by decide), fun m hm => ⟨by rw [(hr 86 (by decide)).2.2.2]; exact (a10.2 m hm).1, k.kd w (a10.2 m hm).2 (by decide)⟩⟩
  · intro m hm i j q1 q2
    rw [(hr (87 + m) (by omega)).1]
    exact kc m hm i j q1 q2

abbrev St : Type := (Nat → Nat) × (Nat → List Nat) × Nat × HD
abbrev FamS (h : AH) (s : St) : Prop := FamR h s.1 s.2.1 s.2.2.1 s.2.2.2
abbrev ModT (h : AH) (s : St) : Prop := ModR h s.1 s.2.1 s.2.2.1 s.2.2.2
abbrev Rs : Type := Int32 × Int32 × St
/-- the two rows that results are laid into -/
def Kd (h : AH) : Prop := zK h 122 = (3, 1) ∧ zK h 123 = (5, 1)
theorem Kd.n {h : AH} (w : Wf h) (k : Kd h) : 123 < zN h := w.lt k.2 (by decide)
/-- what a call of a wrapper is to end with -/
def WQ (ks : List Nat) (Q : PQ) : PQ := fun r h' => match r with
  | .inl (some (.inl v)) => zK h' 122 = (3, 1) ∧ (Wf h' → Q (.inl (some (vI 0))) (sL h' 122 0 v.toInt64))
  | .inl _ => False
  | .inr k => ∃ j, ks[j]? = some k ∧ Q (.inl (some (vI (nI (j + 1))))) h'
/-- after a class's call -/
def CQ (st : St) (r : Rs) (Q : PQ) : Prop := ∀ h', FamS h' r.2.2 → ModT h' st → Kd h' → (r.1 = 0 → zL h' 122 0 = r.2.1.toInt64) → Q (.inl (some (vI r.1))) h'
theorem c_ok {h h1 : AH} {st st' : St} {r : Rs} {v : Int32} {Q : PQ} {ks : List Nat} (w : Wf h) (hm : ModT h st) (kd : Kd h) (hq : CQ st r Q) (er : r = (0, v, st')) (fc : Fc h h1) (fr : FamS h1 st') : WQ ks Q (.inl (some (vI v))) h1 := by
  subst er
  have m1 : ModT h1 st := Fc.mod w fc hm
  have k1 : zK h1 122 = (3, 1) := fc.kd w kd.1 (by decide)
  have k2 : zK h1 123 = (5, 1) := fc.kd w kd.2 (by decide)
  have kp : Kp (fun a => a = 122) h1 (sL h1 122 0 v.toInt64) := Kp.sL rfl
  refine ⟨k1, fun w1 => hq _ (FamR.kz w1 (by have := w1.lt k2 (by decide); omega) fr kp fun a _ e => ⟨by omega, ?_⟩) (m1.kp w1 kp fun a _ q e => by omega) ⟨k1, k2⟩ fun _ => by rw [zL_sL, up1_s]⟩
  rw [show a = 122 from e, k1]
  unfold hk
  decide
theorem c_no {h h1 : AH} {st : St} {r : Rs} {Q : PQ} {ks : List Nat} {j k : Nat} (w : Wf h) (hm : ModT h st) (kd : Kd h) (hq : CQ st r Q) (er : r = (nI (j + 1), 0, st)) (hk : ks[j]? = some k) (hj : j < 3) (fc : Fc h h1) (fr : FamS h1 st) : WQ ks Q (.inr k) h1 := by
  subst er
  refine ⟨j, hk, hq _ fr (Fc.mod w fc hm) ⟨fc.kd w kd.1 (by decide), fc.kd w kd.2 (by decide)⟩ fun e => absurd e ?_⟩
  rcases (show j = 0 ∨ j = 1 ∨ j = 2 by omega) with rfl | rfl | rfl
  · exact (by decide : ¬ nI (0 + 1) = 0)
  · exact (by decide : ¬ nI (1 + 1) = 0)
  · exact (by decide : ¬ nI (2 + 1) = 0)
theorem FamS.bump {h : AH} {st : St} {n : Nat} (x : FamS h st) : FamS (bump h n) st := x
theorem c_nb {h h1 : AH} {st : St} {r : Rs} {Q : PQ} {ks : List Nat} {j k n : Nat} (w : Wf h) (hm : ModT h st) (kd : Kd h) (hq : CQ st r Q) (er : r = (nI (j + 1), 0, st)) (hk : ks[j]? = some k) (hj : j < 3) (fc : Fc h h1) (fr : FamS h1 st) (hn : zN h1 ≤ n) : WQ ks Q (.inr k) (bump h1 n) :=
  c_no w hm kd hq er hk hj (fc.tr (Kp.bump hn)) (FamS.bump fr)
/-- after a model's call -/
def MQ2 (st' : St) (r : Rs) (Q : PQ) : Prop := ∀ h', FamS h' st' → ModT h' r.2.2 → Kd h' → zI h' 99 0 = r.1 → (r.1 = 0 → zL h' 122 0 = r.2.1.toInt64) → Q (.inl (some (vI r.2.1))) h'
theorem m_any {h h1 : AH} {st st' st2 : St} {r : Rs} {c v : Int32} {Q : PQ} (w : Wf h) (fr : FamS h st') (hm : ModT h st) (kd : Kd h) (hz : r.1 = 0 → zL h 122 0 = r.2.1.toInt64) (hq : MQ2 st' r Q) (er : r = (c, v, st2)) (mc : Mc h h1) (m1 : ModT h1 st2) (e : zI h1 99 0 = c) : Q (.inl (some (vI v))) h1 := by
  subst er
  refine hq _ (mc.fam w hm.1 fr) m1 ⟨mc.kd w kd.1 (by decide), mc.kd w kd.2 (by decide)⟩ e fun e0 => ?_
  rw [(mc.2.2 122 (by have := kd.n w; omega) (by omega)).2.1]
  exact hz e0
theorem m_ms {h h1 : AH} {st st' : St} {r : Rs} {c v : Int32} {Q : PQ} (w : Wf h) (fr : FamS h st') (hm : ModT h st) (kd : Kd h) (hz : r.1 = 0 → zL h 122 0 = r.2.1.toInt64) (hq : MQ2 st' r Q) (er : r = (c, v, st)) (ms : Ms h h1) (e : zI h1 99 0 = c) : Q (.inl (some (vI v))) h1 :=
  m_any w fr hm kd hz hq er ms.c (ms.mod w hm) e
