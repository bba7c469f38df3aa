/-! ===== what is known of a heap at any place; what stays ===== -/
def Wf (h : AH) : Prop := 4 ≤ zN h ∧ ∀ a, (a < 4 ∨ zN h ≤ a) → (zK h a).1 = 0
theorem Ex.wf {g : Gp} {M : MD} {pc : Nat} {L st : List AV} {h : AH} {u : Nat × Nat} {Q : PQ} (k : Wf h → Ex g M pc L st h u Q) : Ex g M pc L st h u Q :=
  fun p l e s m args below meth c H locs ls hC hR hS hL hl h1 h2 => k ⟨hR.1, hR.2.2.1⟩ p l e s m args below meth c H locs ls hC hR hS hL hl h1 h2
theorem Wf.lt {h : AH} (w : Wf h) {a t n : Nat} (ha : zK h a = (t, n)) (ht : t ≠ 0) : a < zN h := by
  refine Nat.lt_of_not_le fun q => ht ?_
  have := w.2 a (Or.inr q)
  rw [ha] at this
  exact this
theorem Wf.ge {h : AH} (w : Wf h) {a t n : Nat} (ha : zK h a = (t, n)) (ht : t ≠ 0) : 4 ≤ a := by
  refine Nat.le_of_not_lt fun q => ht ?_
  have := w.2 a (Or.inl q)
  rw [ha] at this
  exact this
/-- cell a is in h' as in h -/
def Sm (h h' : AH) (a : Nat) : Prop := zI h' a = zI h a ∧ zL h' a = zL h a ∧ zD h' a = zD h a ∧ zR h' a = zR h a
def Kp (S : Nat → Prop) (h h' : AH) : Prop := zN h ≤ zN h' ∧ (∀ a, a < zN h → zK h' a = zK h a) ∧ ∀ a, a < zN h → ¬ S a → Sm h h' a
theorem Sm.rf {h : AH} {a : Nat} : Sm h h a := ⟨rfl, rfl, rfl, rfl⟩
theorem Sm.tr {h1 h2 h3 : AH} {a : Nat} (x : Sm h1 h2 a) (y : Sm h2 h3 a) : Sm h1 h3 a := ⟨y.1.trans x.1, y.2.1.trans x.2.1, y.2.2.1.trans x.2.2.1, y.2.2.2.trans x.2.2.2⟩
theorem Kp.rf {S : Nat → Prop} {h : AH} : Kp S h h := ⟨Nat.le_refl _, fun _ _ => rfl, fun _ _ _ => Sm.rf⟩
theorem Kp.tr {S : Nat → Prop} {h1 h2 h3 : AH} (x : Kp S h1 h2) (y : Kp S h2 h3) : Kp S h1 h3 :=
  ⟨Nat.le_trans x.1 y.1, fun a ha => (y.2.1 a (Nat.lt_of_lt_of_le ha x.1)).trans (x.2.1 a ha), fun a ha hs => (x.2.2 a ha hs).tr (y.2.2 a (Nat.lt_of_lt_of_le ha x.1) hs)⟩
/-- what the second step writes may also be new cells of the first -/
theorem Kp.tr2 {S T : Nat → Prop} {h1 h2 h3 : AH} (x : Kp S h1 h2) (y : Kp T h2 h3) (hT : ∀ a, a < zN h1 → T a → S a) : Kp S h1 h3 :=
  ⟨Nat.le_trans x.1 y.1, fun a ha => (y.2.1 a (Nat.lt_of_lt_of_le ha x.1)).trans (x.2.1 a ha), fun a ha hs => (x.2.2 a ha hs).tr (y.2.2 a (Nat.lt_of_lt_of_le ha x.1) (fun t => hs (hT a ha t)))⟩
theorem Kp.mono {S T : Nat → Prop} {h1 h2 : AH} (x : Kp S h1 h2) (hT : ∀ a, a < zN h1 → S a → T a) : Kp T h1 h2 := ⟨x.1, x.2.1, fun a ha hs => x.2.2 a ha (fun t => hs (hT a ha t))⟩
theorem Kp.kd {S : Nat → Prop} {h h' : AH} (x : Kp S h h') (w : Wf h) {a t n : Nat} (ha : zK h a = (t, n)) (ht : t ≠ 0) : zK h' a = (t, n) := (x.2.1 a (w.lt ha ht)).trans ha
theorem Sm.sI {h : AH} {a b k : Nat} {v : Int32} (hb : b ≠ a) : Sm h (sI h a k v) b := ⟨up1_n _ _ hb, rfl, rfl, rfl⟩
theorem Sm.sL {h : AH} {a b k : Nat} {v : Int64} (hb : b ≠ a) : Sm h (sL h a k v) b := ⟨rfl, up1_n _ _ hb, rfl, rfl⟩
theorem Sm.sD {h : AH} {a b k : Nat} {v : UInt64} (hb : b ≠ a) : Sm h (sD h a k v) b := ⟨rfl, rfl, up1_n _ _ hb, rfl⟩
theorem Sm.sR {h : AH} {a b k : Nat} {v : Nat} (hb : b ≠ a) : Sm h (sR h a k v) b := ⟨rfl, rfl, rfl, up1_n _ _ hb⟩
theorem Sm.rwR {h : AH} {a b : Nat} {f : Nat → Nat} (hb : b ≠ a) : Sm h (rwR h a f) b := ⟨rfl, rfl, rfl, up1_n _ _ hb⟩
theorem Sm.rwL {h : AH} {a b : Nat} {f : Nat → Int64} (hb : b ≠ a) : Sm h (rwL h a f) b := ⟨rfl, up1_n _ _ hb, rfl, rfl⟩
theorem Sm.nw {h : AH} {kd : Nat × Nat} {b : Nat} (hb : b ≠ zN h) : Sm h (nw h kd) b := ⟨up1_n _ _ hb, up1_n _ _ hb, up1_n _ _ hb, up1_n _ _ hb⟩
theorem Kp.of {S : Nat → Prop} {h h' : AH} (hn : zN h' = zN h) (hk : zK h' = zK h) (hs : ∀ a, ¬ S a → Sm h h' a) : Kp S h h' := ⟨by rw [hn]; exact Nat.le_refl _, fun _ _ => by rw [hk], fun a _ h => hs a h⟩
theorem Kp.sI {S : Nat → Prop} {h : AH} {a k : Nat} {v : Int32} (ha : S a) : Kp S h (sI h a k v) := Kp.of rfl rfl fun b hb => Sm.sI fun e => hb (e ▸ ha)
theorem Kp.sL {S : Nat → Prop} {h : AH} {a k : Nat} {v : Int64} (ha : S a) : Kp S h (sL h a k v) := Kp.of rfl rfl fun b hb => Sm.sL fun e => hb (e ▸ ha)
theorem Kp.sD {S : Nat → Prop} {h : AH} {a k : Nat} {v : UInt64} (ha : S a) : Kp S h (sD h a k v) := Kp.of rfl rfl fun b hb => Sm.sD fun e => hb (e ▸ ha)
theorem Kp.sR {S : Nat → Prop} {h : AH} {a k : Nat} {v : Nat} (ha : S a) : Kp S h (sR h a k v) := Kp.of rfl rfl fun b hb => Sm.sR fun e => hb (e ▸ ha)
theorem Kp.rwR {S : Nat → Prop} {h : AH} {a : Nat} {f : Nat → Nat} (ha : S a) : Kp S h (rwR h a f) := Kp.of rfl rfl fun b hb => Sm.rwR fun e => hb (e ▸ ha)
theorem Kp.rwL {S : Nat → Prop} {h : AH} {a : Nat} {f : Nat → Int64} (ha : S a) : Kp S h (rwL h a f) := Kp.of rfl rfl fun b hb => Sm.rwL fun e => hb (e ▸ ha)
theorem Kp.nw {S : Nat → Prop} {h : AH} {kd : Nat × Nat} : Kp S h (nw h kd) :=
  ⟨Nat.le_succ _, fun a ha => up1_n _ _ (Nat.ne_of_lt ha), fun a ha _ => Sm.nw (Nat.ne_of_lt ha)⟩
theorem Kp.bump {S : Nat → Prop} {h : AH} {n : Nat} (hn : zN h ≤ n) : Kp S h (bump h n) := ⟨hn, fun _ _ => rfl, fun _ _ _ => Sm.rf⟩
theorem zI_sI {h : AH} {a k : Nat} {v : Int32} : zI (sI h a k v) a = up1 (zI h a) k v := up1_s _ _ _
theorem zL_sL {h : AH} {a k : Nat} {v : Int64} : zL (sL h a k v) a = up1 (zL h a) k v := up1_s _ _ _
theorem zR_sR {h : AH} {a k : Nat} {v : Nat} : zR (sR h a k v) a = up1 (zR h a) k v := up1_s _ _ _
theorem zR_rwR {h : AH} {a : Nat} {f : Nat → Nat} : zR (rwR h a f) a = f := up1_s _ _ _
theorem zL_rwL {h : AH} {a : Nat} {f : Nat → Int64} : zL (rwL h a f) a = f := up1_s _ _ _
theorem zK_nw {h : AH} {kd : Nat × Nat} : zK (nw h kd) (zN h) = kd := up1_s _ _ _
theorem wf_nw {h : AH} {kd : Nat × Nat} (w : Wf h) : Wf (nw h kd) := by
  refine ⟨Nat.le_succ_of_le w.1, fun a ha => ?_⟩
  have h9 : a < 4 ∨ zN h + 1 ≤ a := ha
  have := w.1
  have hk : zK (nw h kd) a = zK h a := up1_n _ _ (show a ≠ h.1 from (by show a ≠ zN h; omega))
  rw [hk]
  exact w.2 a (by omega)
theorem bn_t {P A B : Prop} (h : P) (b : B) : (¬ P → A) ∧ (P → B) := ⟨fun n => absurd h n, fun _ => b⟩
theorem bn_f {P A B : Prop} (h : ¬ P) (a : A) : (¬ P → A) ∧ (P → B) := ⟨fun _ => a, fun n => absurd n h⟩
theorem bn_c {P A B : Prop} (a : ¬ P → A) (b : P → B) : (¬ P → A) ∧ (P → B) := ⟨a, b⟩
theorem kL {h : AH} {a k : Nat} {v : Int64} : zK (sL h a k v) = zK h := rfl
theorem kI {h : AH} {a k : Nat} {v : Int32} : zK (sI h a k v) = zK h := rfl
theorem kD {h : AH} {a k : Nat} {v : UInt64} : zK (sD h a k v) = zK h := rfl
theorem kR {h : AH} {a k : Nat} {v : Nat} : zK (sR h a k v) = zK h := rfl
theorem rL {h : AH} {a k : Nat} {v : Int64} : zR (sL h a k v) = zR h := rfl
theorem rI {h : AH} {a k : Nat} {v : Int32} : zR (sI h a k v) = zR h := rfl
theorem rD {h : AH} {a k : Nat} {v : UInt64} : zR (sD h a k v) = zR h := rfl
theorem iL {h : AH} {a k : Nat} {v : Int64} : zI (sL h a k v) = zI h := rfl
theorem iD {h : AH} {a k : Nat} {v : UInt64} : zI (sD h a k v) = zI h := rfl
theorem iR {h : AH} {a k : Nat} {v : Nat} : zI (sR h a k v) = zI h := rfl
theorem lI {h : AH} {a k : Nat} {v : Int32} : zL (sI h a k v) = zL h := rfl
theorem lD {h : AH} {a k : Nat} {v : UInt64} : zL (sD h a k v) = zL h := rfl
theorem lR {h : AH} {a k : Nat} {v : Nat} : zL (sR h a k v) = zL h := rfl
theorem tti {P : Prop} : (True → P) ↔ P := ⟨fun f => f trivial, fun p _ => p⟩
theorem zI_n {h : AH} {a b k : Nat} {v : Int32} (hb : b ≠ a) : zI (sI h a k v) b = zI h b := up1_n _ _ hb
theorem zL_n {h : AH} {a b k : Nat} {v : Int64} (hb : b ≠ a) : zL (sL h a k v) b = zL h b := up1_n _ _ hb
theorem zR_n {h : AH} {a b k v : Nat} (hb : b ≠ a) : zR (sR h a k v) b = zR h b := up1_n _ _ hb
theorem vp_0 {n : Nat} (h : 0 < n) (h2 : n < 2 ^ 31) : vp_in 0 n := vp_in_nI h h2
