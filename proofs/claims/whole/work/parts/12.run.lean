/-! ===== many instructions at one go (by program) ===== -/
abbrev OP : Type := Instr × Nat × (Nat × Nat × Nat) × AV
def isIv (v : AV) : Bool := match v with
  | .inl _ => true
  | _ => false
def isWv (v : AV) : Bool := match v with
  | .inr (.inl _) => true
  | .inr (.inr (.inl _)) => true
  | _ => false
def cat1 (v : AV) : Bool := match v with
  | .inl _ => true
  | .inr (.inr (.inr (.inl _))) => true
  | _ => false
theorem cat1_ok {g : Gp} {v : AV} (h : cat1 v = true) : (tv g v).category = 1 := by
  rcases v with x | x | x | x | x
  · rfl
  · exact absurd h (by simp [cat1])
  · exact absurd h (by simp [cat1])
  · rcases rv_or g x with e | ⟨a, e⟩ <;> (simp only [tv]; rw [e]; rfl)
  · exact absurd h (by simp [cat1])
def fwb (M : MD) (c k : Nat) : Bool := match clt[c]? with
  | some q => !(q.2.1 k).2.2.2 || ((mY M).name == "<init>" && (q.2.1 k).1 == mO M)
  | none => false
theorem fwb_ok {M : MD} {c k : Nat} (h : fwb M c k = true) : FWok M c k := by
  unfold fwb at h
  split at h
  · rename_i q hq
    refine ⟨q, hq, ?_⟩
    cases hb : (q.2.1 k).2.2.2 with
    | false => exact Or.inl rfl
    | true =>
      simp only [hb, Bool.not_true, Bool.false_or, Bool.and_eq_true, beq_iff_eq] at h
      exact Or.inr ⟨rfl, h.1, h.2⟩
  · exact absurd h (by simp)
theorem kd_eta {h : AH} {a t : Nat} (e : (zK h a).1 = t) : zK h a = (t, (zK h a).2) := by rw [← e]
theorem arrw : ∀ t, (t = 2 ∨ t = 3 ∨ t = 4 ∨ t = 5) → Cond.arrayClass (newarray.typeOf (atk t)) ∈ lw_g := by
  intro t ht
  rcases ht with rfl | rfl | rfl | rfl
  · exact lg_mem (by decide +kernel) rfl
  · exact lg_mem (by decide +kernel) rfl
  · exact lg_mem (by decide +kernel) rfl
  · exact lg_mem (by decide +kernel) rfl
def retI (r : Option FieldType) (a : Int32) : Prop := match r with
  | some .int => True
  | some .boolean => a = 0 ∨ a = 1
  | _ => False
theorem retI_ok {r : Option FieldType} {a : Int32} (h : retI r a) : ∃ ty, r = some ty ∧ narrow ty (.int a) = .int a := by
  unfold retI at h
  split at h
  · exact ⟨_, rfl, rfl⟩
  · rcases h with rfl | rfl <;> exact ⟨_, rfl, rfl⟩
  · exact absurd h id
def retA (r : Option FieldType) : Bool := match r with
  | some (.object _) => true
  | some (.array _) => true
  | _ => false
theorem retA_ok {r : Option FieldType} (h : retA r = true) : ∃ ty, r = some ty ∧ ((∃ n, ty = .object n) ∨ ∃ t, ty = .array t) := by
  unfold retA at h
  split at h
  · exact ⟨_, rfl, Or.inl ⟨_, rfl⟩⟩
  · exact ⟨_, rfl, Or.inr ⟨_, rfl⟩⟩
  · exact absurd h (by simp)
theorem Ex.len {g : Gp} {M : MD} {pc : Nat} {L st : List AV} {h : AH} {u : Nat × Nat} {Q : PQ} (k : L.length = mX M → Ex g M pc L st h u Q) : Ex g M pc L st h u Q :=
  fun p l e s m args below meth c H locs ls hC hR hS hL hl h1 h2 => k hl p l e s m args below meth c H locs ls hC hR hS hL hl h1 h2
def alen (h : AH) (a : Nat) : Int32 := if a = 2 then 0 else nI (zK h a).2
theorem x_alenG {g : Gp} {M : MD} {pc : Nat} {L st : List AV} {h : AH} {u : Nat × Nat} {Q : PQ} {a : Nat} (hc : a = 2 ∨ (2 ≤ (zK h a).1 ∧ (zK h a).1 ≤ 8)) (hd : decode (mB M) pc = .ok (.arraylength, 1)) (kk : Ex g M (pc + 1) L (vI (alen h a) :: st) h u Q) : Ex g M pc L (vR a :: st) h u Q := by
  by_cases e : a = 2
  · subst e
    exact x_elen hd kk
  · rcases hc with e2 | e2
    · exact absurd e2 e
    · have e3 : alen h a = nI (zK h a).2 := if_neg e
      rw [e3] at kk
      exact x_alen e2 (kd_eta rfl) hd kk
def inC (l : List (Nat × AV)) (k : Nat) (v : AV) : Bool := l.any (fun e => e.1 == k && decide (e.2 = v))
theorem inC_mem {l : List (Nat × AV)} {k : Nat} {v : AV} (h : inC l k v = true) : (k, v) ∈ l := by
  unfold inC at h
  obtain ⟨e, h1, h2⟩ := List.any_eq_true.mp h
  simp only [Bool.and_eq_true, beq_iff_eq, decide_eq_true_eq] at h2
  obtain ⟨h3, h4⟩ := h2
  subst h3
  subst h4
  exact h1
def COk (own : String) (e : Nat × AV) : Prop := match e.2 with
  | .inl a => Cond.constant own e.1 a ∈ lw_g
  | .inr (.inl a) => Cond.constantLong own e.1 a ∈ lw_g
  | .inr (.inr (.inl a)) => Cond.constantDouble own e.1 a ∈ lw_g
  | _ => False
def NOk (own : String) (e : Nat × Nat) : Prop := ∃ q : vw_C, clt[e.2]? = some q ∧ Cond.classLink own e.1 q.1 ∈ lw_g ∧ Cond.instantiable q.1 q.2.2 ∈ lw_g ∧ Cond.initialized q.1 ∈ lw_g ∧ ∀ k, k < q.2.2 → ftc (cty e.2 k) < 3
def XOk (own : String) (e : Nat × Nat) : Prop := ∃ q : vw_C, clt[e.2]? = some q ∧ Cond.classLink own e.1 q.1 ∈ lw_g
def CFok (f : CF) : Prop := (∀ e ∈ f.2.1, FOk f.1 e.1 e.2.1 e.2.2.1 e.2.2.2) ∧ (∀ e ∈ f.2.2.1, COk f.1 e) ∧ (∀ e ∈ f.2.2.2.1, NOk f.1 e) ∧ ∀ e ∈ f.2.2.2.2, XOk f.1 e

def run (M : MD) (Q : PQ) (K : Nat → List AV → List AV → AH → Nat × Nat → Prop) : List OP → Nat → List AV → List AV → AH → Nat × Nat → Prop
  | [], pc, L, st, h, u => K pc L st h u
  | (i, n, x, v) :: r, pc, L, st, h, u => match i with
    | .iconst k => run M Q K r (pc + n) L (v :: st) h u
    | .bipush k => run M Q K r (pc + n) L (v :: st) h u
    | .sipush k => run M Q K r (pc + n) L (v :: st) h u
    | .lconst k => run M Q K r (pc + n) L (v :: st) h u
    | .dconst k => run M Q K r (pc + n) L (v :: st) h u
    | .aconst_null => run M Q K r (pc + n) L (vR 0 :: st) h u
    | .ldc k => run M Q K r (pc + n) L (v :: st) h u
    | .ldc_w k => run M Q K r (pc + n) L (v :: st) h u
    | .ldc2_w k => run M Q K r (pc + n) L (v :: st) h u
    | .iload_n k => match lg L x.1 with
      | .inl a => run M Q K r (pc + n) L (vI a :: st) h u
      | _ => False
    | .istore_n k => match st with
      | .inl a :: s => run M Q K r (pc + n) (st1 L x.1 (vI a)) s h u
      | _ => False
    | .iload k => match lg L x.1 with
      | .inl a => run M Q K r (pc + n) L (vI a :: st) h u
      | _ => False
    | .istore k => match st with
      | .inl a :: s => run M Q K r (pc + n) (st1 L x.1 (vI a)) s h u
      | _ => False
    | .lload_n k => match lg L x.1 with
      | .inr (.inl a) => run M Q K r (pc + n) L (vL a :: st) h u
      | _ => False
    | .lstore_n k => match st with
      | .inr (.inl a) :: s => run M Q K r (pc + n) (st2 L x.1 (vL a)) s h u
      | _ => False
    | .lload k => match lg L x.1 with
      | .inr (.inl a) => run M Q K r (pc + n) L (vL a :: st) h u
      | _ => False
    | .lstore k => match st with
      | .inr (.inl a) :: s => run M Q K r (pc + n) (st2 L x.1 (vL a)) s h u
      | _ => False
    | .dload_n k => match lg L x.1 with
      | .inr (.inr (.inl a)) => run M Q K r (pc + n) L (vD a :: st) h u
      | _ => False
    | .dstore_n k => match st with
      | .inr (.inr (.inl a)) :: s => run M Q K r (pc + n) (st2 L x.1 (vD a)) s h u
      | _ => False
    | .dload k => match lg L x.1 with
      | .inr (.inr (.inl a)) => run M Q K r (pc + n) L (vD a :: st) h u
      | _ => False
    | .dstore k => match st with
      | .inr (.inr (.inl a)) :: s => run M Q K r (pc + n) (st2 L x.1 (vD a)) s h u
      | _ => False
    | .aload_n k => match lg L x.1 with
      | .inr (.inr (.inr (.inl a))) => run M Q K r (pc + n) L (vR a :: st) h u
      | _ => False
    | .astore_n k => match st with
      | .inr (.inr (.inr (.inl a))) :: s => run M Q K r (pc + n) (st1 L x.1 (vR a)) s h u
      | _ => False
    | .aload k => match lg L x.1 with
      | .inr (.inr (.inr (.inl a))) => run M Q K r (pc + n) L (vR a :: st) h u
      | _ => False
    | .astore k => match st with
      | .inr (.inr (.inr (.inl a))) :: s => run M Q K r (pc + n) (st1 L x.1 (vR a)) s h u
      | _ => False
    | .iinc k j => match lg L x.1 with
      | .inl a => (match v with
        | .inl w => run M Q K r (pc + n) (st1 L x.1 (vI (a + w))) st h u
        | _ => False)
      | _ => False
    | .iadd => match st with
      | .inl b :: .inl a :: s => run M Q K r (pc + n) L (vI (a + b) :: s) h u
      | _ => False
    | .isub => match st with
      | .inl b :: .inl a :: s => run M Q K r (pc + n) L (vI (a - b) :: s) h u
      | _ => False
    | .imul => match st with
      | .inl b :: .inl a :: s => run M Q K r (pc + n) L (vI (a * b) :: s) h u
      | _ => False
    | .iand => match st with
      | .inl b :: .inl a :: s => run M Q K r (pc + n) L (vI (a &&& b) :: s) h u
      | _ => False
    | .ior => match st with
      | .inl b :: .inl a :: s => run M Q K r (pc + n) L (vI (a ||| b) :: s) h u
      | _ => False
    | .ixor => match st with
      | .inl b :: .inl a :: s => run M Q K r (pc + n) L (vI (a ^^^ b) :: s) h u
      | _ => False
    | .ishl => match st with
      | .inl b :: .inl a :: s => run M Q K r (pc + n) L (vI (a <<< (b &&& 31)) :: s) h u
      | _ => False
    | .ishr => match st with
      | .inl b :: .inl a :: s => run M Q K r (pc + n) L (vI (a >>> (b &&& 31)) :: s) h u
      | _ => False
    | .iushr => match st with
      | .inl b :: .inl a :: s => run M Q K r (pc + n) L (vI ((a.toUInt32 >>> (b.toUInt32 &&& Int32.toUInt32 31)).toInt32) :: s) h u
      | _ => False
    | .idiv => match st with
      | .inl b :: .inl a :: s => b ≠ 0 ∧ run M Q K r (pc + n) L (vI (a / b) :: s) h u
      | _ => False
    | .irem => match st with
      | .inl b :: .inl a :: s => b ≠ 0 ∧ run M Q K r (pc + n) L (vI (a - a / b * b) :: s) h u
      | _ => False
    | .ladd => match st with
      | .inr (.inl b) :: .inr (.inl a) :: s => run M Q K r (pc + n) L (vL (a + b) :: s) h u
      | _ => False
    | .lsub => match st with
      | .inr (.inl b) :: .inr (.inl a) :: s => run M Q K r (pc + n) L (vL (a - b) :: s) h u
      | _ => False
    | .lmul => match st with
      | .inr (.inl b) :: .inr (.inl a) :: s => run M Q K r (pc + n) L (vL (a * b) :: s) h u
      | _ => False
    | .lor => match st with
      | .inr (.inl b) :: .inr (.inl a) :: s => run M Q K r (pc + n) L (vL (a ||| b) :: s) h u
      | _ => False
    | .land => match st with
      | .inr (.inl b) :: .inr (.inl a) :: s => run M Q K r (pc + n) L (vL (a &&& b) :: s) h u
      | _ => False
    | .lxor => match st with
      | .inr (.inl b) :: .inr (.inl a) :: s => run M Q K r (pc + n) L (vL (a ^^^ b) :: s) h u
      | _ => False
    | .ldiv => match st with
      | .inr (.inl b) :: .inr (.inl a) :: s => b ≠ 0 ∧ run M Q K r (pc + n) L (vL (a / b) :: s) h u
      | _ => False
    | .lrem => match st with
      | .inr (.inl b) :: .inr (.inl a) :: s => b ≠ 0 ∧ run M Q K r (pc + n) L (vL (a - a / b * b) :: s) h u
      | _ => False
    | .lushr => match st with
      | .inl b :: .inr (.inl a) :: s => run M Q K r (pc + n) L (vL ((a.toUInt64 >>> (b.toInt64.toUInt64 &&& Int64.toUInt64 63)).toInt64) :: s) h u
      | _ => False
    | .lshl => match st with
      | .inl b :: .inr (.inl a) :: s => run M Q K r (pc + n) L (vL (a <<< (b.toInt64 &&& 63)) :: s) h u
      | _ => False
    | .lcmp => match st with
      | .inr (.inl b) :: .inr (.inl a) :: s => run M Q K r (pc + n) L (vI (lg_cmp a b) :: s) h u
      | _ => False
    | .dcmp k => match st with
      | .inr (.inr (.inl b)) :: .inr (.inr (.inl a)) :: s => run M Q K r (pc + n) L (vI (Op.cmpValue (FP.dcmp a b) k) :: s) h u
      | _ => False
    | .ddiv => match st with
      | .inr (.inr (.inl b)) :: .inr (.inr (.inl a)) :: s => vf_n64 (FP.ddiv a b) ∧ run M Q K r (pc + n) L (vD (FP.ddiv a b) :: s) h u
      | _ => False
    | .i2l => match st with
      | .inl a :: s => run M Q K r (pc + n) L (vL a.toInt64 :: s) h u
      | _ => False
    | .l2i => match st with
      | .inr (.inl a) :: s => run M Q K r (pc + n) L (vI a.toInt32 :: s) h u
      | _ => False
    | .i2d => match st with
      | .inl a :: s => run M Q K r (pc + n) L (vD (FP.i2d a) :: s) h u
      | _ => False
    | .dup => match st with
      | a :: s => cat1 a = true ∧ run M Q K r (pc + n) L (a :: a :: s) h u
      | _ => False
    | .pop => match st with
      | a :: s => cat1 a = true ∧ run M Q K r (pc + n) L (s) h u
      | _ => False
    | .dup_x1 => match st with
      | a :: b :: s => cat1 a = true ∧ cat1 b = true ∧ run M Q K r (pc + n) L (a :: b :: a :: s) h u
      | _ => False
    | .dup_x2 => match st with
      | a :: b :: e :: s => cat1 a = true ∧ cat1 b = true ∧ cat1 e = true ∧ run M Q K r (pc + n) L (a :: b :: e :: a :: s) h u
      | _ => False
    | .dup2 => match st with
      | a :: b :: s => cat1 a = true ∧ cat1 b = true ∧ run M Q K r (pc + n) L (a :: b :: a :: b :: s) h u
      | _ => False
    | .ifCond .eq off => match st with
      | .inl a :: s => (a = 0 → K x.1 L s h u) ∧ (¬ a = 0 → run M Q K r (pc + n) L s h u)
      | _ => False
    | .if_icmp .eq off => match st with
      | .inl b :: .inl a :: s => (a = b → K x.1 L s h u) ∧ (¬ a = b → run M Q K r (pc + n) L s h u)
      | _ => False
    | .ifCond .ne off => match st with
      | .inl a :: s => (¬ a = 0 → K x.1 L s h u) ∧ (a = 0 → run M Q K r (pc + n) L s h u)
      | _ => False
    | .if_icmp .ne off => match st with
      | .inl b :: .inl a :: s => (¬ a = b → K x.1 L s h u) ∧ (a = b → run M Q K r (pc + n) L s h u)
      | _ => False
    | .ifCond .lt off => match st with
      | .inl a :: s => (a < 0 → K x.1 L s h u) ∧ (¬ a < 0 → run M Q K r (pc + n) L s h u)
      | _ => False
    | .if_icmp .lt off => match st with
      | .inl b :: .inl a :: s => (a < b → K x.1 L s h u) ∧ (¬ a < b → run M Q K r (pc + n) L s h u)
      | _ => False
    | .ifCond .ge off => match st with
      | .inl a :: s => (0 ≤ a → K x.1 L s h u) ∧ (¬ 0 ≤ a → run M Q K r (pc + n) L s h u)
      | _ => False
    | .if_icmp .ge off => match st with
      | .inl b :: .inl a :: s => (b ≤ a → K x.1 L s h u) ∧ (¬ b ≤ a → run M Q K r (pc + n) L s h u)
      | _ => False
    | .ifCond .gt off => match st with
      | .inl a :: s => (0 < a → K x.1 L s h u) ∧ (¬ 0 < a → run M Q K r (pc + n) L s h u)
      | _ => False
    | .if_icmp .gt off => match st with
      | .inl b :: .inl a :: s => (b < a → K x.1 L s h u) ∧ (¬ b < a → run M Q K r (pc + n) L s h u)
      | _ => False
    | .ifCond .le off => match st with
      | .inl a :: s => (a ≤ 0 → K x.1 L s h u) ∧ (¬ a ≤ 0 → run M Q K r (pc + n) L s h u)
      | _ => False
    | .if_icmp .le off => match st with
      | .inl b :: .inl a :: s => (a ≤ b → K x.1 L s h u) ∧ (¬ a ≤ b → run M Q K r (pc + n) L s h u)
      | _ => False
    | .goto off => run M Q K r x.1 L st h u
    | .getfield k => match st with
      | .inr (.inr (.inr (.inl a))) :: s => zK h a = (1, x.1) ∧ run M Q K r (pc + n) L (fvv h x.2.2 a x.2.1 :: s) h u
      | _ => False
    | .putfield k => match st with
      | w :: .inr (.inr (.inr (.inl a))) :: s => zK h a = (1, x.1) ∧ kind3 w = x.2.2 ∧ run M Q K r (pc + n) L s (sfv h a x.2.1 w) u
      | _ => False
    | .iaload => match st with
      | .inl i :: .inr (.inr (.inr (.inl a))) :: s => (zK h a).1 = 2 ∧ vp_in i (zK h a).2 ∧ run M Q K r (pc + n) L (vI (zI h a i.toNatClampNeg) :: s) h u
      | _ => False
    | .laload => match st with
      | .inl i :: .inr (.inr (.inr (.inl a))) :: s => (zK h a).1 = 3 ∧ vp_in i (zK h a).2 ∧ run M Q K r (pc + n) L (vL (zL h a i.toNatClampNeg) :: s) h u
      | _ => False
    | .baload => match st with
      | .inl i :: .inr (.inr (.inr (.inl a))) :: s => (zK h a).1 = 4 ∧ vp_in i (zK h a).2 ∧ run M Q K r (pc + n) L (vI (zI h a i.toNatClampNeg) :: s) h u
      | _ => False
    | .daload => match st with
      | .inl i :: .inr (.inr (.inr (.inl a))) :: s => (zK h a).1 = 5 ∧ vp_in i (zK h a).2 ∧ run M Q K r (pc + n) L (vD (zD h a i.toNatClampNeg) :: s) h u
      | _ => False
    | .aaload => match st with
      | .inl i :: .inr (.inr (.inr (.inl a))) :: s => ((zK h a).1 = 6 ∨ (zK h a).1 = 7 ∨ (zK h a).1 = 8) ∧ vp_in i (zK h a).2 ∧ run M Q K r (pc + n) L (vR (zR h a i.toNatClampNeg) :: s) h u
      | _ => False
    | .iastore => match st with
      | .inl w :: .inl i :: .inr (.inr (.inr (.inl a))) :: s0 => (zK h a).1 = 2 ∧ vp_in i (zK h a).2 ∧ run M Q K r (pc + n) L s0 (sI h a i.toNatClampNeg w) u
      | _ => False
    | .lastore => match st with
      | .inr (.inl w) :: .inl i :: .inr (.inr (.inr (.inl a))) :: s0 => (zK h a).1 = 3 ∧ vp_in i (zK h a).2 ∧ run M Q K r (pc + n) L s0 (sL h a i.toNatClampNeg w) u
      | _ => False
    | .bastore => match st with
      | .inl w :: .inl i :: .inr (.inr (.inr (.inl a))) :: s0 => (zK h a).1 = 4 ∧ vp_in i (zK h a).2 ∧ (w = 0 ∨ w = 1) ∧ run M Q K r (pc + n) L s0 (sI h a i.toNatClampNeg w) u
      | _ => False
    | .dastore => match st with
      | .inr (.inr (.inl w)) :: .inl i :: .inr (.inr (.inr (.inl a))) :: s0 => (zK h a).1 = 5 ∧ vp_in i (zK h a).2 ∧ run M Q K r (pc + n) L s0 (sD h a i.toNatClampNeg w) u
      | _ => False
    | .arraylength => match st with
      | .inr (.inr (.inr (.inl a))) :: s => (match x.1 with
        | 1 => (a = 2 ∨ (2 ≤ (zK h a).1 ∧ (zK h a).1 ≤ 8)) ∧ run M Q K r (pc + n) L (vI (alen h a) :: s) h u
        | _ => (2 ≤ (zK h a).1 ∧ (zK h a).1 ≤ 8) ∧ run M Q K r (pc + n) L (vI (nI (zK h a).2) :: s) h u)
      | _ => False
    | .newarray k => match st with
      | .inl i :: s => ¬ i < 0 ∧ i.toNatClampNeg ≤ 60000000 ∧ u.1 + 1 ≤ mC M ∧ u.2 + i.toNatClampNeg ≤ mS M ∧ run M Q K r (pc + n) L (vR (zN h) :: s) (nw h (x.1, i.toNatClampNeg)) (u.1 + 1, u.2 + i.toNatClampNeg)
      | _ => False
    | .new k => u.1 + 1 ≤ mC M ∧ u.2 + nfl x.1 ≤ mS M ∧ run M Q K r (pc + n) L (vR (zN h) :: st) (nw h (1, x.1)) (u.1 + 1, u.2 + nfl x.1)
    | .checkcast k => match st with
      | .inr (.inr (.inr (.inl a))) :: s => zK h a = (1, x.1) ∧ run M Q K r (pc + n) L (vR a :: s) h u
      | _ => False
    | .ireturn => match st with
      | [.inl a] => retI (mR M) a ∧ Q (.inl (some (vI a))) h
      | _ => False
    | .lreturn => match st with
      | [.inr (.inl a)] => mR M = some .long ∧ Q (.inl (some (vL a))) h
      | _ => False
    | .dreturn => match st with
      | [.inr (.inr (.inl a))] => mR M = some .double ∧ Q (.inl (some (vD a))) h
      | _ => False
    | .areturn => match st with
      | [.inr (.inr (.inr (.inl a)))] => retA (mR M) = true ∧ Q (.inl (some (vR a))) h
      | _ => False
    | .return_ => match st with
      | [] => mR M = none ∧ Q (.inl none) h
      | _ => False
    | _ => False
def okOp (M : MD) (i : Instr) (n : Nat) (x : Nat × Nat × Nat) (v : AV) (pc : Nat) : Bool := match i with
    | .iconst k => n == 1 && decide (v = vI (Int32.ofInt k))
    | .bipush k => n == 2 && decide (v = vI ((Int8.ofInt k).toInt32))
    | .sipush k => n == 3 && decide (v = vI ((Int16.ofInt k).toInt32))
    | .lconst k => n == 1 && decide (v = vL (Int64.ofNat (k : Nat)))
    | .dconst k => n == 1 && k == 0 && decide (v = vD FP.dconst0)
    | .aconst_null => n == 1
    | .ldc k => n == 2 && isIv v && inC (mF M).2.2.1 k v
    | .ldc_w k => n == 3 && isIv v && inC (mF M).2.2.1 k v
    | .ldc2_w k => n == 3 && isWv v && inC (mF M).2.2.1 k v
    | .iload_n k => n == 1 && x.1 == (k : Nat)
    | .istore_n k => n == 1 && x.1 == (k : Nat) && decide (x.1 < mX M)
    | .iload k => n == 2 && x.1 == (k : Nat)
    | .istore k => n == 2 && x.1 == (k : Nat) && decide (x.1 < mX M)
    | .lload_n k => n == 1 && x.1 == (k : Nat)
    | .lstore_n k => n == 1 && x.1 == (k : Nat) && decide (x.1 + 1 < mX M)
    | .lload k => n == 2 && x.1 == (k : Nat)
    | .lstore k => n == 2 && x.1 == (k : Nat) && decide (x.1 + 1 < mX M)
    | .dload_n k => n == 1 && x.1 == (k : Nat)
    | .dstore_n k => n == 1 && x.1 == (k : Nat) && decide (x.1 + 1 < mX M)
    | .dload k => n == 2 && x.1 == (k : Nat)
    | .dstore k => n == 2 && x.1 == (k : Nat) && decide (x.1 + 1 < mX M)
    | .aload_n k => n == 1 && x.1 == (k : Nat)
    | .astore_n k => n == 1 && x.1 == (k : Nat) && decide (x.1 < mX M)
    | .aload k => n == 2 && x.1 == (k : Nat)
    | .astore k => n == 2 && x.1 == (k : Nat) && decide (x.1 < mX M)
    | .iinc k j => n == 3 && x.1 == k && decide (v = vI (Int32.ofInt j))
    | .iadd => n == 1
    | .isub => n == 1
    | .imul => n == 1
    | .iand => n == 1
    | .ior => n == 1
    | .ixor => n == 1
    | .ishl => n == 1
    | .ishr => n == 1
    | .iushr => n == 1
    | .idiv => n == 1
    | .irem => n == 1
    | .ladd => n == 1
    | .lsub => n == 1
    | .lmul => n == 1
    | .lor => n == 1
    | .land => n == 1
    | .lxor => n == 1
    | .ldiv => n == 1
    | .lrem => n == 1
    | .lushr => n == 1
    | .lshl => n == 1
    | .lcmp => n == 1
    | .dcmp k => n == 1
    | .ddiv => n == 1
    | .i2l => n == 1
    | .l2i => n == 1
    | .i2d => n == 1
    | .dup => n == 1
    | .pop => n == 1
    | .dup_x1 => n == 1
    | .dup_x2 => n == 1
    | .dup2 => n == 1
    | .ifCond .eq off => n == 3 && decide ((pc : Int) + off = (x.1 : Int))
    | .if_icmp .eq off => n == 3 && decide ((pc : Int) + off = (x.1 : Int))
    | .ifCond .ne off => n == 3 && decide ((pc : Int) + off = (x.1 : Int))
    | .if_icmp .ne off => n == 3 && decide ((pc : Int) + off = (x.1 : Int))
    | .ifCond .lt off => n == 3 && decide ((pc : Int) + off = (x.1 : Int))
    | .if_icmp .lt off => n == 3 && decide ((pc : Int) + off = (x.1 : Int))
    | .ifCond .ge off => n == 3 && decide ((pc : Int) + off = (x.1 : Int))
    | .if_icmp .ge off => n == 3 && decide ((pc : Int) + off = (x.1 : Int))
    | .ifCond .gt off => n == 3 && decide ((pc : Int) + off = (x.1 : Int))
    | .if_icmp .gt off => n == 3 && decide ((pc : Int) + off = (x.1 : Int))
    | .ifCond .le off => n == 3 && decide ((pc : Int) + off = (x.1 : Int))
    | .if_icmp .le off => n == 3 && decide ((pc : Int) + off = (x.1 : Int))
    | .goto off => n == 3 && decide ((pc : Int) + off = (x.1 : Int))
    | .getfield k => n == 3 && (mF M).2.1.elem (k, x.1, x.2.1, x.2.2)
    | .putfield k => n == 3 && (mF M).2.1.elem (k, x.1, x.2.1, x.2.2) && fwb M x.1 x.2.1
    | .iaload => n == 1
    | .laload => n == 1
    | .baload => n == 1
    | .daload => n == 1
    | .aaload => n == 1
    | .iastore => n == 1
    | .lastore => n == 1
    | .bastore => n == 1
    | .dastore => n == 1
    | .arraylength => n == 1
    | .newarray k => n == 2 && decide (k = atk x.1) && (x.1 == 2 || x.1 == 3 || x.1 == 4 || x.1 == 5)
    | .new k => n == 3 && (mF M).2.2.2.1.elem (k, x.1)
    | .checkcast k => n == 3 && (mF M).2.2.2.2.elem (k, x.1)
    | .ireturn => n == 1
    | .lreturn => n == 1
    | .dreturn => n == 1
    | .areturn => n == 1
    | .return_ => n == 1
    | _ => false
def nxt (i : Instr) (n : Nat) (x : Nat × Nat × Nat) (pc : Nat) : Nat := match i with
  | .goto _ => x.1
  | _ => pc + n
def okAt (M : MD) : List OP → Nat → Bool
  | [], _ => true
  | (i, n, x, v) :: r, pc => decide (decode (mB M) pc = .ok (i, n)) && okOp M i n x v pc && okAt M r (nxt i n x pc)
theorem run_ok {g : Gp} {M : MD} {Q : PQ} {K : Nat → List AV → List AV → AH → Nat × Nat → Prop} (cf : CFok (mF M)) (hK : ∀ pc L st h u, K pc L st h u → Ex g M pc L st h u Q) : ∀ (ops : List OP) (pc : Nat) (L st : List AV) (h : AH) (u : Nat × Nat), okAt M ops pc = true → run M Q K ops pc L st h u → Ex g M pc L st h u Q := by
  intro ops
  induction ops with
  | nil => intro pc L st h u _ hr; exact hK _ _ _ _ _ hr
  | cons op r ih0 =>
  intro pc L st h u ho hr
  obtain ⟨i, n, x, v⟩ := op
  simp only [okAt, Bool.and_eq_true, decide_eq_true_eq] at ho
  obtain ⟨⟨d, o⟩, oo⟩ := ho
  match i, d, o, oo, hr with
  | .iconst k, d, o, oo, hr =>
    simp only [okOp, Bool.and_eq_true, beq_iff_eq, decide_eq_true_eq] at o; obtain ⟨rfl, rfl⟩ := o; exact x_iconst rfl d (ih0 _ _ _ _ _ oo hr)
  | .bipush k, d, o, oo, hr =>
    simp only [okOp, Bool.and_eq_true, beq_iff_eq, decide_eq_true_eq] at o; obtain ⟨rfl, rfl⟩ := o; exact x_bipush rfl d (ih0 _ _ _ _ _ oo hr)
  | .sipush k, d, o, oo, hr =>
    simp only [okOp, Bool.and_eq_true, beq_iff_eq, decide_eq_true_eq] at o; obtain ⟨rfl, rfl⟩ := o; exact x_sipush rfl d (ih0 _ _ _ _ _ oo hr)
  | .lconst k, d, o, oo, hr =>
    simp only [okOp, Bool.and_eq_true, beq_iff_eq, decide_eq_true_eq] at o; obtain ⟨rfl, rfl⟩ := o; exact x_lconst rfl d (ih0 _ _ _ _ _ oo hr)
  | .dconst k, d, o, oo, hr =>
    simp only [okOp, Bool.and_eq_true, beq_iff_eq, decide_eq_true_eq] at o; obtain ⟨⟨rfl, rfl⟩, rfl⟩ := o; exact x_dconst0 d (ih0 _ _ _ _ _ oo hr)
  | .aconst_null, d, o, oo, hr =>
    simp only [okOp, beq_iff_eq] at o; subst o; exact x_null d (ih0 _ _ _ _ _ oo hr)
  | .ldc k, d, o, oo, hr =>
    simp only [okOp, Bool.and_eq_true, beq_iff_eq, List.elem_eq_mem, decide_eq_true_eq] at o
    obtain ⟨⟨rfl, o2⟩, o3⟩ := o
    have hc := cf.2.1 _ (inC_mem o3)
    rcases v with y | y | y | y | y
    · exact x_ldc hc d (ih0 _ _ _ _ _ oo hr)
    · simp [isIv] at o2
    · simp [isIv] at o2
    · simp [isIv] at o2
    · simp [isIv] at o2
  | .ldc_w k, d, o, oo, hr =>
    simp only [okOp, Bool.and_eq_true, beq_iff_eq, List.elem_eq_mem, decide_eq_true_eq] at o
    obtain ⟨⟨rfl, o2⟩, o3⟩ := o
    have hc := cf.2.1 _ (inC_mem o3)
    rcases v with y | y | y | y | y
    · exact x_ldcw hc d (ih0 _ _ _ _ _ oo hr)
    · simp [isIv] at o2
    · simp [isIv] at o2
    · simp [isIv] at o2
    · simp [isIv] at o2
  | .ldc2_w k, d, o, oo, hr =>
    simp only [okOp, Bool.and_eq_true, beq_iff_eq, List.elem_eq_mem, decide_eq_true_eq] at o
    obtain ⟨⟨rfl, o2⟩, o3⟩ := o
    have hc := cf.2.1 _ (inC_mem o3)
    rcases v with y | y | y | y | y
    · simp [isWv] at o2
    · exact x_ldc2 hc d (ih0 _ _ _ _ _ oo hr)
    · exact x_ldc2d hc d (ih0 _ _ _ _ _ oo hr)
    · simp [isWv] at o2
    · simp [isWv] at o2
  | .iload_n k, d, o, oo, hr =>
    simp only [okOp, Bool.and_eq_true, beq_iff_eq, decide_eq_true_eq] at o
    obtain ⟨rfl, o2⟩ := o
    simp only [run] at hr
    split at hr
    · rename_i hv; exact x_iload_n o2.symm hv d (ih0 _ _ _ _ _ oo hr)
    · exact absurd hr id
  | .istore_n k, d, o, oo, hr =>
    simp only [okOp, Bool.and_eq_true, beq_iff_eq, decide_eq_true_eq] at o
    obtain ⟨⟨rfl, o2⟩, o3⟩ := o
    simp only [run] at hr
    split at hr
    · exact Ex.len (fun hl => x_istore_n o2.symm (by rw [hl]; exact o3) d (by exact ih0 _ _ _ _ _ oo hr))
    · exact absurd hr id
  | .iload k, d, o, oo, hr =>
    simp only [okOp, Bool.and_eq_true, beq_iff_eq, decide_eq_true_eq] at o
    obtain ⟨rfl, o2⟩ := o
    simp only [run] at hr
    split at hr
    · rename_i hv; exact x_iload (by rw [← o2]; exact hv) d (ih0 _ _ _ _ _ oo hr)
    · exact absurd hr id
  | .istore k, d, o, oo, hr =>
    simp only [okOp, Bool.and_eq_true, beq_iff_eq, decide_eq_true_eq] at o
    obtain ⟨⟨rfl, o2⟩, o3⟩ := o
    simp only [run] at hr
    split at hr
    · exact Ex.len (fun hl => x_istore (by rw [← o2, hl]; exact o3) d (by rw [← o2]; exact ih0 _ _ _ _ _ oo hr))
    · exact absurd hr id
  | .lload_n k, d, o, oo, hr =>
    simp only [okOp, Bool.and_eq_true, beq_iff_eq, decide_eq_true_eq] at o
    obtain ⟨rfl, o2⟩ := o
    simp only [run] at hr
    split at hr
    · rename_i hv; exact x_lload_n o2.symm hv d (ih0 _ _ _ _ _ oo hr)
    · exact absurd hr id
  | .lstore_n k, d, o, oo, hr =>
    simp only [okOp, Bool.and_eq_true, beq_iff_eq, decide_eq_true_eq] at o
    obtain ⟨⟨rfl, o2⟩, o3⟩ := o
    simp only [run] at hr
    split at hr
    · exact Ex.len (fun hl => x_lstore_n o2.symm (by rw [hl]; exact o3) d (by exact ih0 _ _ _ _ _ oo hr))
    · exact absurd hr id
  | .lload k, d, o, oo, hr =>
    simp only [okOp, Bool.and_eq_true, beq_iff_eq, decide_eq_true_eq] at o
    obtain ⟨rfl, o2⟩ := o
    simp only [run] at hr
    split at hr
    · rename_i hv; exact x_lload (by rw [← o2]; exact hv) d (ih0 _ _ _ _ _ oo hr)
    · exact absurd hr id
  | .lstore k, d, o, oo, hr =>
    simp only [okOp, Bool.and_eq_true, beq_iff_eq, decide_eq_true_eq] at o
    obtain ⟨⟨rfl, o2⟩, o3⟩ := o
    simp only [run] at hr
    split at hr
    · exact Ex.len (fun hl => x_lstore (by rw [← o2, hl]; exact o3) d (by rw [← o2]; exact ih0 _ _ _ _ _ oo hr))
    · exact absurd hr id
  | .dload_n k, d, o, oo, hr =>
    simp only [okOp, Bool.and_eq_true, beq_iff_eq, decide_eq_true_eq] at o
    obtain ⟨rfl, o2⟩ := o
    simp only [run] at hr
    split at hr
    · rename_i hv; exact x_dload_n o2.symm hv d (ih0 _ _ _ _ _ oo hr)
    · exact absurd hr id
  | .dstore_n k, d, o, oo, hr =>
    simp only [okOp, Bool.and_eq_true, beq_iff_eq, decide_eq_true_eq] at o
    obtain ⟨⟨rfl, o2⟩, o3⟩ := o
    simp only [run] at hr
    split at hr
    · exact Ex.len (fun hl => x_dstore_n o2.symm (by rw [hl]; exact o3) d (by exact ih0 _ _ _ _ _ oo hr))
    · exact absurd hr id
  | .dload k, d, o, oo, hr =>
    simp only [okOp, Bool.and_eq_true, beq_iff_eq, decide_eq_true_eq] at o
    obtain ⟨rfl, o2⟩ := o
    simp only [run] at hr
    split at hr
    · rename_i hv; exact x_dload (by rw [← o2]; exact hv) d (ih0 _ _ _ _ _ oo hr)
    · exact absurd hr id
  | .dstore k, d, o, oo, hr =>
    simp only [okOp, Bool.and_eq_true, beq_iff_eq, decide_eq_true_eq] at o
    obtain ⟨⟨rfl, o2⟩, o3⟩ := o
    simp only [run] at hr
    split at hr
    · exact Ex.len (fun hl => x_dstore (by rw [← o2, hl]; exact o3) d (by rw [← o2]; exact ih0 _ _ _ _ _ oo hr))
    · exact absurd hr id
  | .aload_n k, d, o, oo, hr =>
    simp only [okOp, Bool.and_eq_true, beq_iff_eq, decide_eq_true_eq] at o
    obtain ⟨rfl, o2⟩ := o
    simp only [run] at hr
    split at hr
    · rename_i hv; exact x_aload_n o2.symm hv d (ih0 _ _ _ _ _ oo hr)
    · exact absurd hr id
  | .astore_n k, d, o, oo, hr =>
    simp only [okOp, Bool.and_eq_true, beq_iff_eq, decide_eq_true_eq] at o
    obtain ⟨⟨rfl, o2⟩, o3⟩ := o
    simp only [run] at hr
    split at hr
    · exact Ex.len (fun hl => x_astore_n o2.symm (by rw [hl]; exact o3) d (by exact ih0 _ _ _ _ _ oo hr))
    · exact absurd hr id
  | .aload k, d, o, oo, hr =>
    simp only [okOp, Bool.and_eq_true, beq_iff_eq, decide_eq_true_eq] at o
    obtain ⟨rfl, o2⟩ := o
    simp only [run] at hr
    split at hr
    · rename_i hv; exact x_aload (by rw [← o2]; exact hv) d (ih0 _ _ _ _ _ oo hr)
    · exact absurd hr id
  | .astore k, d, o, oo, hr =>
    simp only [okOp, Bool.and_eq_true, beq_iff_eq, decide_eq_true_eq] at o
    obtain ⟨⟨rfl, o2⟩, o3⟩ := o
    simp only [run] at hr
    split at hr
    · exact Ex.len (fun hl => x_astore (by rw [← o2, hl]; exact o3) d (by rw [← o2]; exact ih0 _ _ _ _ _ oo hr))
    · exact absurd hr id
  | .iinc k j, d, o, oo, hr =>
    simp only [okOp, Bool.and_eq_true, beq_iff_eq, decide_eq_true_eq] at o
    obtain ⟨⟨rfl, rfl⟩, rfl⟩ := o
    simp only [run] at hr
    split at hr
    · rename_i hv; exact x_iinc hv rfl d (ih0 _ _ _ _ _ oo hr)
    · exact absurd hr id
  | .iadd, d, o, oo, hr =>
    simp only [okOp, beq_iff_eq] at o
    subst o
    simp only [run] at hr
    split at hr
    · exact x_iadd d (ih0 _ _ _ _ _ oo hr)
    · exact absurd hr id
  | .isub, d, o, oo, hr =>
    simp only [okOp, beq_iff_eq] at o
    subst o
    simp only [run] at hr
    split at hr
    · exact x_isub d (ih0 _ _ _ _ _ oo hr)
    · exact absurd hr id
  | .imul, d, o, oo, hr =>
    simp only [okOp, beq_iff_eq] at o
    subst o
    simp only [run] at hr
    split at hr
    · exact x_imul d (ih0 _ _ _ _ _ oo hr)
    · exact absurd hr id
  | .iand, d, o, oo, hr =>
    simp only [okOp, beq_iff_eq] at o
    subst o
    simp only [run] at hr
    split at hr
    · exact x_iand d (ih0 _ _ _ _ _ oo hr)
    · exact absurd hr id
  | .ior, d, o, oo, hr =>
    simp only [okOp, beq_iff_eq] at o
    subst o
    simp only [run] at hr
    split at hr
    · exact x_ior d (ih0 _ _ _ _ _ oo hr)
    · exact absurd hr id
  | .ixor, d, o, oo, hr =>
    simp only [okOp, beq_iff_eq] at o
    subst o
    simp only [run] at hr
    split at hr
    · exact x_ixor d (ih0 _ _ _ _ _ oo hr)
    · exact absurd hr id
  | .ishl, d, o, oo, hr =>
    simp only [okOp, beq_iff_eq] at o
    subst o
    simp only [run] at hr
    split at hr
    · exact x_ishl d (ih0 _ _ _ _ _ oo hr)
    · exact absurd hr id
  | .ishr, d, o, oo, hr =>
    simp only [okOp, beq_iff_eq] at o
    subst o
    simp only [run] at hr
    split at hr
    · exact x_ishr d (ih0 _ _ _ _ _ oo hr)
    · exact absurd hr id
  | .iushr, d, o, oo, hr =>
    simp only [okOp, beq_iff_eq] at o
    subst o
    simp only [run] at hr
    split at hr
    · exact x_iushr d (ih0 _ _ _ _ _ oo hr)
    · exact absurd hr id
  | .idiv, d, o, oo, hr =>
    simp only [okOp, beq_iff_eq] at o
    subst o
    simp only [run] at hr
    split at hr
    · exact x_idiv hr.1 d (ih0 _ _ _ _ _ oo hr.2)
    · exact absurd hr id
  | .irem, d, o, oo, hr =>
    simp only [okOp, beq_iff_eq] at o
    subst o
    simp only [run] at hr
    split at hr
    · exact x_irem hr.1 d (ih0 _ _ _ _ _ oo hr.2)
    · exact absurd hr id
  | .ladd, d, o, oo, hr =>
    simp only [okOp, beq_iff_eq] at o
    subst o
    simp only [run] at hr
    split at hr
    · exact x_ladd d (ih0 _ _ _ _ _ oo hr)
    · exact absurd hr id
  | .lsub, d, o, oo, hr =>
    simp only [okOp, beq_iff_eq] at o
    subst o
    simp only [run] at hr
    split at hr
    · exact x_lsub d (ih0 _ _ _ _ _ oo hr)
    · exact absurd hr id
  | .lmul, d, o, oo, hr =>
    simp only [okOp, beq_iff_eq] at o
    subst o
    simp only [run] at hr
    split at hr
    · exact x_lmul d (ih0 _ _ _ _ _ oo hr)
    · exact absurd hr id
  | .lor, d, o, oo, hr =>
    simp only [okOp, beq_iff_eq] at o
    subst o
    simp only [run] at hr
    split at hr
    · exact x_lor d (ih0 _ _ _ _ _ oo hr)
    · exact absurd hr id
  | .land, d, o, oo, hr =>
    simp only [okOp, beq_iff_eq] at o
    subst o
    simp only [run] at hr
    split at hr
    · exact x_land d (ih0 _ _ _ _ _ oo hr)
    · exact absurd hr id
  | .lxor, d, o, oo, hr =>
    simp only [okOp, beq_iff_eq] at o
    subst o
    simp only [run] at hr
    split at hr
    · exact x_lxor d (ih0 _ _ _ _ _ oo hr)
    · exact absurd hr id
  | .ldiv, d, o, oo, hr =>
    simp only [okOp, beq_iff_eq] at o
    subst o
    simp only [run] at hr
    split at hr
    · exact x_ldiv hr.1 d (ih0 _ _ _ _ _ oo hr.2)
    · exact absurd hr id
  | .lrem, d, o, oo, hr =>
    simp only [okOp, beq_iff_eq] at o
    subst o
    simp only [run] at hr
    split at hr
    · exact x_lrem hr.1 d (ih0 _ _ _ _ _ oo hr.2)
    · exact absurd hr id
  | .lushr, d, o, oo, hr =>
    simp only [okOp, beq_iff_eq] at o
    subst o
    simp only [run] at hr
    split at hr
    · exact x_lushr d (ih0 _ _ _ _ _ oo hr)
    · exact absurd hr id
  | .lshl, d, o, oo, hr =>
    simp only [okOp, beq_iff_eq] at o
    subst o
    simp only [run] at hr
    split at hr
    · exact x_lshl d (ih0 _ _ _ _ _ oo hr)
    · exact absurd hr id
  | .lcmp, d, o, oo, hr =>
    simp only [okOp, beq_iff_eq] at o
    subst o
    simp only [run] at hr
    split at hr
    · exact x_lcmp d (ih0 _ _ _ _ _ oo hr)
    · exact absurd hr id
  | .dcmp k, d, o, oo, hr =>
    simp only [okOp, beq_iff_eq] at o
    subst o
    simp only [run] at hr
    split at hr
    · exact x_dcmp d (ih0 _ _ _ _ _ oo hr)
    · exact absurd hr id
  | .ddiv, d, o, oo, hr =>
    simp only [okOp, beq_iff_eq] at o
    subst o
    simp only [run] at hr
    split at hr
    · exact x_ddiv hr.1 d (ih0 _ _ _ _ _ oo hr.2)
    · exact absurd hr id
  | .i2l, d, o, oo, hr =>
    simp only [okOp, beq_iff_eq] at o
    subst o
    simp only [run] at hr
    split at hr
    · exact x_i2l d (ih0 _ _ _ _ _ oo hr)
    · exact absurd hr id
  | .l2i, d, o, oo, hr =>
    simp only [okOp, beq_iff_eq] at o
    subst o
    simp only [run] at hr
    split at hr
    · exact x_l2i d (ih0 _ _ _ _ _ oo hr)
    · exact absurd hr id
  | .i2d, d, o, oo, hr =>
    simp only [okOp, beq_iff_eq] at o
    subst o
    simp only [run] at hr
    split at hr
    · exact x_i2d d (ih0 _ _ _ _ _ oo hr)
    · exact absurd hr id
  | .dup, d, o, oo, hr =>
    simp only [okOp, beq_iff_eq] at o
    subst o
    simp only [run] at hr
    split at hr
    · exact x_dup (cat1_ok hr.1) d (ih0 _ _ _ _ _ oo hr.2)
    · exact absurd hr id
  | .pop, d, o, oo, hr =>
    simp only [okOp, beq_iff_eq] at o
    subst o
    simp only [run] at hr
    split at hr
    · exact x_pop (cat1_ok hr.1) d (ih0 _ _ _ _ _ oo hr.2)
    · exact absurd hr id
  | .dup_x1, d, o, oo, hr =>
    simp only [okOp, beq_iff_eq] at o
    subst o
    simp only [run] at hr
    split at hr
    · exact x_dup_x1 (cat1_ok hr.1) (cat1_ok hr.2.1) d (ih0 _ _ _ _ _ oo hr.2.2)
    · exact absurd hr id
  | .dup_x2, d, o, oo, hr =>
    simp only [okOp, beq_iff_eq] at o
    subst o
    simp only [run] at hr
    split at hr
    · exact x_dup_x2 (cat1_ok hr.1) (cat1_ok hr.2.1) (cat1_ok hr.2.2.1) d (ih0 _ _ _ _ _ oo hr.2.2.2)
    · exact absurd hr id
  | .dup2, d, o, oo, hr =>
    simp only [okOp, beq_iff_eq] at o
    subst o
    simp only [run] at hr
    split at hr
    · exact x_dup2 (cat1_ok hr.1) (cat1_ok hr.2.1) d (ih0 _ _ _ _ _ oo hr.2.2)
    · exact absurd hr id
  | .ifCond .eq off, d, o, oo, hr =>
    simp only [okOp, Bool.and_eq_true, beq_iff_eq, decide_eq_true_eq] at o
    obtain ⟨rfl, o2⟩ := o
    simp only [run] at hr
    split at hr
    · exact x_if_eq o2 d (fun hc => hK _ _ _ _ _ (hr.1 hc)) (fun hc => ih0 _ _ _ _ _ oo (hr.2 hc))
    · exact absurd hr id
  | .if_icmp .eq off, d, o, oo, hr =>
    simp only [okOp, Bool.and_eq_true, beq_iff_eq, decide_eq_true_eq] at o
    obtain ⟨rfl, o2⟩ := o
    simp only [run] at hr
    split at hr
    · exact x_icmp_eq o2 d (fun hc => hK _ _ _ _ _ (hr.1 hc)) (fun hc => ih0 _ _ _ _ _ oo (hr.2 hc))
    · exact absurd hr id
  | .ifCond .ne off, d, o, oo, hr =>
    simp only [okOp, Bool.and_eq_true, beq_iff_eq, decide_eq_true_eq] at o
    obtain ⟨rfl, o2⟩ := o
    simp only [run] at hr
    split at hr
    · exact x_if_ne o2 d (fun hc => hK _ _ _ _ _ (hr.1 hc)) (fun hc => ih0 _ _ _ _ _ oo (hr.2 hc))
    · exact absurd hr id
  | .if_icmp .ne off, d, o, oo, hr =>
    simp only [okOp, Bool.and_eq_true, beq_iff_eq, decide_eq_true_eq] at o
    obtain ⟨rfl, o2⟩ := o
    simp only [run] at hr
    split at hr
    · exact x_icmp_ne o2 d (fun hc => hK _ _ _ _ _ (hr.1 hc)) (fun hc => ih0 _ _ _ _ _ oo (hr.2 hc))
    · exact absurd hr id
  | .ifCond .lt off, d, o, oo, hr =>
    simp only [okOp, Bool.and_eq_true, beq_iff_eq, decide_eq_true_eq] at o
    obtain ⟨rfl, o2⟩ := o
    simp only [run] at hr
    split at hr
    · exact x_if_lt o2 d (fun hc => hK _ _ _ _ _ (hr.1 hc)) (fun hc => ih0 _ _ _ _ _ oo (hr.2 hc))
    · exact absurd hr id
  | .if_icmp .lt off, d, o, oo, hr =>
    simp only [okOp, Bool.and_eq_true, beq_iff_eq, decide_eq_true_eq] at o
    obtain ⟨rfl, o2⟩ := o
    simp only [run] at hr
    split at hr
    · exact x_icmp_lt o2 d (fun hc => hK _ _ _ _ _ (hr.1 hc)) (fun hc => ih0 _ _ _ _ _ oo (hr.2 hc))
    · exact absurd hr id
  | .ifCond .ge off, d, o, oo, hr =>
    simp only [okOp, Bool.and_eq_true, beq_iff_eq, decide_eq_true_eq] at o
    obtain ⟨rfl, o2⟩ := o
    simp only [run] at hr
    split at hr
    · exact x_if_ge o2 d (fun hc => hK _ _ _ _ _ (hr.1 hc)) (fun hc => ih0 _ _ _ _ _ oo (hr.2 hc))
    · exact absurd hr id
  | .if_icmp .ge off, d, o, oo, hr =>
    simp only [okOp, Bool.and_eq_true, beq_iff_eq, decide_eq_true_eq] at o
    obtain ⟨rfl, o2⟩ := o
    simp only [run] at hr
    split at hr
    · exact x_icmp_ge o2 d (fun hc => hK _ _ _ _ _ (hr.1 hc)) (fun hc => ih0 _ _ _ _ _ oo (hr.2 hc))
    · exact absurd hr id
  | .ifCond .gt off, d, o, oo, hr =>
    simp only [okOp, Bool.and_eq_true, beq_iff_eq, decide_eq_true_eq] at o
    obtain ⟨rfl, o2⟩ := o
    simp only [run] at hr
    split at hr
    · exact x_if_gt o2 d (fun hc => hK _ _ _ _ _ (hr.1 hc)) (fun hc => ih0 _ _ _ _ _ oo (hr.2 hc))
    · exact absurd hr id
  | .if_icmp .gt off, d, o, oo, hr =>
    simp only [okOp, Bool.and_eq_true, beq_iff_eq, decide_eq_true_eq] at o
    obtain ⟨rfl, o2⟩ := o
    simp only [run] at hr
    split at hr
    · exact x_icmp_gt o2 d (fun hc => hK _ _ _ _ _ (hr.1 hc)) (fun hc => ih0 _ _ _ _ _ oo (hr.2 hc))
    · exact absurd hr id
  | .ifCond .le off, d, o, oo, hr =>
    simp only [okOp, Bool.and_eq_true, beq_iff_eq, decide_eq_true_eq] at o
    obtain ⟨rfl, o2⟩ := o
    simp only [run] at hr
    split at hr
    · exact x_if_le o2 d (fun hc => hK _ _ _ _ _ (hr.1 hc)) (fun hc => ih0 _ _ _ _ _ oo (hr.2 hc))
    · exact absurd hr id
  | .if_icmp .le off, d, o, oo, hr =>
    simp only [okOp, Bool.and_eq_true, beq_iff_eq, decide_eq_true_eq] at o
    obtain ⟨rfl, o2⟩ := o
    simp only [run] at hr
    split at hr
    · exact x_icmp_le o2 d (fun hc => hK _ _ _ _ _ (hr.1 hc)) (fun hc => ih0 _ _ _ _ _ oo (hr.2 hc))
    · exact absurd hr id
  | .goto off, d, o, oo, hr =>
    simp only [okOp, Bool.and_eq_true, beq_iff_eq, decide_eq_true_eq] at o
    obtain ⟨rfl, o2⟩ := o
    exact x_goto o2 d (ih0 _ _ _ _ _ oo hr)
  | .getfield k, d, o, oo, hr =>
    simp only [okOp, Bool.and_eq_true, beq_iff_eq, List.elem_eq_mem, decide_eq_true_eq] at o
    obtain ⟨rfl, o2⟩ := o
    simp only [run] at hr
    split at hr
    · exact x_getfield (cf.1 _ o2) hr.1 d (ih0 _ _ _ _ _ oo hr.2)
    · exact absurd hr id
  | .putfield k, d, o, oo, hr =>
    simp only [okOp, Bool.and_eq_true, beq_iff_eq, List.elem_eq_mem, decide_eq_true_eq] at o
    obtain ⟨⟨rfl, o2⟩, o3⟩ := o
    simp only [run] at hr
    split at hr
    · exact x_putfield (by rw [hr.2.1]; exact cf.1 _ o2) (fwb_ok o3) hr.1 d (ih0 _ _ _ _ _ oo hr.2.2)
    · exact absurd hr id
  | .iaload, d, o, oo, hr =>
    simp only [okOp, beq_iff_eq] at o
    subst o
    simp only [run] at hr
    split at hr
    · exact x_iaload (kd_eta hr.1) hr.2.1 d (ih0 _ _ _ _ _ oo hr.2.2)
    · exact absurd hr id
  | .laload, d, o, oo, hr =>
    simp only [okOp, beq_iff_eq] at o
    subst o
    simp only [run] at hr
    split at hr
    · exact x_laload (kd_eta hr.1) hr.2.1 d (ih0 _ _ _ _ _ oo hr.2.2)
    · exact absurd hr id
  | .baload, d, o, oo, hr =>
    simp only [okOp, beq_iff_eq] at o
    subst o
    simp only [run] at hr
    split at hr
    · exact x_baload (kd_eta hr.1) hr.2.1 d (ih0 _ _ _ _ _ oo hr.2.2)
    · exact absurd hr id
  | .daload, d, o, oo, hr =>
    simp only [okOp, beq_iff_eq] at o
    subst o
    simp only [run] at hr
    split at hr
    · exact x_daload (kd_eta hr.1) hr.2.1 d (ih0 _ _ _ _ _ oo hr.2.2)
    · exact absurd hr id
  | .aaload, d, o, oo, hr =>
    simp only [okOp, beq_iff_eq] at o
    subst o
    simp only [run] at hr
    split at hr
    · exact x_aaload hr.1 (kd_eta rfl) hr.2.1 d (ih0 _ _ _ _ _ oo hr.2.2)
    · exact absurd hr id
  | .iastore, d, o, oo, hr =>
    simp only [okOp, beq_iff_eq] at o
    subst o
    simp only [run] at hr
    split at hr
    · exact x_iastore (kd_eta hr.1) hr.2.1 d (ih0 _ _ _ _ _ oo hr.2.2)
    · exact absurd hr id
  | .lastore, d, o, oo, hr =>
    simp only [okOp, beq_iff_eq] at o
    subst o
    simp only [run] at hr
    split at hr
    · exact x_lastore (kd_eta hr.1) hr.2.1 d (ih0 _ _ _ _ _ oo hr.2.2)
    · exact absurd hr id
  | .bastore, d, o, oo, hr =>
    simp only [okOp, beq_iff_eq] at o
    subst o
    simp only [run] at hr
    split at hr
    · exact x_bastore (kd_eta hr.1) hr.2.2.1 hr.2.1 d (ih0 _ _ _ _ _ oo hr.2.2.2)
    · exact absurd hr id
  | .dastore, d, o, oo, hr =>
    simp only [okOp, beq_iff_eq] at o
    subst o
    simp only [run] at hr
    split at hr
    · exact x_dastore (kd_eta hr.1) hr.2.1 d (ih0 _ _ _ _ _ oo hr.2.2)
    · exact absurd hr id
  | .arraylength, d, o, oo, hr =>
    simp only [okOp, beq_iff_eq] at o
    subst o
    simp only [run] at hr
    split at hr
    · split at hr
      · exact x_alenG hr.1 d (ih0 _ _ _ _ _ oo hr.2)
      · exact x_alen hr.1 (kd_eta rfl) d (ih0 _ _ _ _ _ oo hr.2)
    · exact absurd hr id
  | .newarray k, d, o, oo, hr =>
    simp only [okOp, Bool.and_eq_true, Bool.or_eq_true, beq_iff_eq, decide_eq_true_eq] at o
    obtain ⟨⟨rfl, rfl⟩, o3⟩ := o
    simp only [run] at hr
    split at hr
    · exact x_newarray (by omega) (arrw _ (by omega)) hr.1 rfl hr.2.1 hr.2.2.1 hr.2.2.2.1 d (ih0 _ _ _ _ _ oo hr.2.2.2.2)
    · exact absurd hr id
  | .new k, d, o, oo, hr =>
    simp only [okOp, Bool.and_eq_true, beq_iff_eq, List.elem_eq_mem, decide_eq_true_eq] at o
    obtain ⟨rfl, o2⟩ := o
    simp only [run] at hr
    obtain ⟨q, w1, w2, w3, w4, w5⟩ := cf.2.2.1 _ o2
    rw [nfl_of w1] at hr
    exact x_new w2 w3 w4 w1 w5 hr.1 hr.2.1 d (ih0 _ _ _ _ _ oo hr.2.2)
  | .checkcast k, d, o, oo, hr =>
    simp only [okOp, Bool.and_eq_true, beq_iff_eq, List.elem_eq_mem, decide_eq_true_eq] at o
    obtain ⟨rfl, o2⟩ := o
    simp only [run] at hr
    obtain ⟨q, w1, w2⟩ := cf.2.2.2 _ o2
    split at hr
    · exact x_cast w2 w1 hr.1 d (ih0 _ _ _ _ _ oo hr.2)
    · exact absurd hr id
  | .ireturn, d, o, oo, hr =>
    simp only [okOp, beq_iff_eq] at o
    subst o
    simp only [run] at hr
    split at hr
    · obtain ⟨ty, e1, e2⟩ := retI_ok hr.1
      exact Ex.iret e1 e2 d hr.2
    · exact absurd hr id
  | .lreturn, d, o, oo, hr =>
    simp only [okOp, beq_iff_eq] at o
    subst o
    simp only [run] at hr
    split at hr
    · exact Ex.lret hr.1 d hr.2
    · exact absurd hr id
  | .dreturn, d, o, oo, hr =>
    simp only [okOp, beq_iff_eq] at o
    subst o
    simp only [run] at hr
    split at hr
    · exact Ex.dret hr.1 d hr.2
    · exact absurd hr id
  | .areturn, d, o, oo, hr =>
    simp only [okOp, beq_iff_eq] at o
    subst o
    simp only [run] at hr
    split at hr
    · obtain ⟨ty, e1, e2⟩ := retA_ok hr.1
      exact Ex.aret e1 e2 d hr.2
    · exact absurd hr id
  | .return_, d, o, oo, hr =>
    simp only [okOp, beq_iff_eq] at o
    subst o
    simp only [run] at hr
    split at hr
    · exact Ex.vret hr.1 d hr.2
    · exact absurd hr id
