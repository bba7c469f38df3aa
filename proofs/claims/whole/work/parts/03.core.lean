/-! ===== the abstract machine: values, heaps by rows, methods; what it means that it stands for the real one ===== -/
abbrev AV : Type := Int32 ⊕ Int64 ⊕ UInt64 ⊕ Nat ⊕ Unit
abbrev vI (x : Int32) : AV := Sum.inl x
abbrev vL (x : Int64) : AV := Sum.inr (Sum.inl x)
abbrev vD (x : UInt64) : AV := Sum.inr (Sum.inr (Sum.inl x))
abbrev vR (x : Nat) : AV := Sum.inr (Sum.inr (Sum.inr (Sum.inl x)))
abbrev vU : AV := Sum.inr (Sum.inr (Sum.inr (Sum.inr ())))
/-- next address, kinds, ints, longs, doubles, references (0: null, 1: the script, 2: ArrayList's empty row, 3: the Class object of Object[], from 4 on what is made) -/
abbrev AH : Type := Nat × (Nat → Nat × Nat) × (Nat → Nat → Int32) × (Nat → Nat → Int64) × (Nat → Nat → UInt64) × (Nat → Nat → Nat)
def zN (h : AH) : Nat := h.1
def zK (h : AH) : Nat → Nat × Nat := h.2.1
def zI (h : AH) : Nat → Nat → Int32 := h.2.2.1
def zL (h : AH) : Nat → Nat → Int64 := h.2.2.2.1
def zD (h : AH) : Nat → Nat → UInt64 := h.2.2.2.2.1
def zR (h : AH) : Nat → Nat → Nat := h.2.2.2.2.2
def up1 {α : Type} (f : Nat → α) (a : Nat) (v : α) : Nat → α := fun b => if b = a then v else f b
def up2 {α : Type} (f : Nat → Nat → α) (a k : Nat) (v : α) : Nat → Nat → α := up1 f a (up1 (f a) k v)
def sI (h : AH) (a k : Nat) (v : Int32) : AH := (h.1, h.2.1, up2 h.2.2.1 a k v, h.2.2.2)
def sL (h : AH) (a k : Nat) (v : Int64) : AH := (h.1, h.2.1, h.2.2.1, up2 h.2.2.2.1 a k v, h.2.2.2.2)
def sD (h : AH) (a k : Nat) (v : UInt64) : AH := (h.1, h.2.1, h.2.2.1, h.2.2.2.1, up2 h.2.2.2.2.1 a k v, h.2.2.2.2.2)
def sR (h : AH) (a k : Nat) (v : Nat) : AH := (h.1, h.2.1, h.2.2.1, h.2.2.2.1, h.2.2.2.2.1, up2 h.2.2.2.2.2 a k v)
/-- a new cell of a kind, all of it 0 -/
def nw (h : AH) (kd : Nat × Nat) : AH := (h.1 + 1, up1 h.2.1 h.1 kd, up1 h.2.2.1 h.1 (fun _ => 0), up1 h.2.2.2.1 h.1 (fun _ => 0), up1 h.2.2.2.2.1 h.1 (fun _ => 0), up1 h.2.2.2.2.2 h.1 (fun _ => 0))
/-- a row of n new int rows of k places each -/
def nwm (h : AH) (n k : Nat) : AH :=
  (h.1 + 1 + n, fun b => if b = h.1 then (8, n) else if h.1 < b ∧ b < h.1 + 1 + n then (2, k) else h.2.1 b, fun b => if h.1 ≤ b then (fun _ => 0) else h.2.2.1 b, fun b => if h.1 ≤ b then (fun _ => 0) else h.2.2.2.1 b, fun b => if h.1 ≤ b then (fun _ => 0) else h.2.2.2.2.1 b,
    fun b => if b = h.1 then (fun j => if j < n then h.1 + 1 + j else 0) else if h.1 ≤ b then (fun _ => 0) else h.2.2.2.2.2 b)
/-- cells that are of no use (what was thrown) -/
def bump (h : AH) (n : Nat) : AH := (n, h.2)
/-- N0, the script's address, the empty row's, the Class object's, the script's length and ints, the tables' numbers, the rows' classes -/
abbrev Gp : Type := Nat × Nat × Nat × Nat × Nat × (Nat → Int32) × va_G × (Nat → ClassId)
def gN (g : Gp) : Nat := g.1
def gb (g : Gp) : Nat := g.2.1
def gt (g : Gp) : Nat := g.2.2.1
def gm (g : Gp) : Nat := g.2.2.2.1
def gl (g : Gp) : Nat := g.2.2.2.2.1
def gx (g : Gp) : Nat → Int32 := g.2.2.2.2.2.1
def gD (g : Gp) : va_G := g.2.2.2.2.2.2.1
def gA (g : Gp) : Nat → ClassId := g.2.2.2.2.2.2.2
def gAd (g : Gp) : Nat → Prop := fun q => gN g ≤ q
def adr (g : Gp) (x : Nat) : Nat := if x = 1 then gb g else if x = 2 then gt g else if x = 3 then gm g else gN g + (x - 4)
def rv (g : Gp) (x : Nat) : Value := if x = 0 then .null else .ref (adr g x)
def ro (g : Gp) (x : Nat) : Option Nat := if x = 0 then none else some (adr g x)
def tv (g : Gp) : AV → Value
  | .inl x => .int x
  | .inr (.inl x) => .long x
  | .inr (.inr (.inl x)) => .double x
  | .inr (.inr (.inr (.inl x))) => rv g x
  | .inr (.inr (.inr (.inr _))) => .null
abbrev clt : List vw_C := [(RJx4a65c, TJx4a65c, 3), (RX0, TX0, 8), (RX1, TX1, 2), (RX2, TX2, 2), (RX3, TX3, 4), (RX4, TX4, 7), (RX5, TX5, 4), (RX6, TX6, 2), (RX7, TX7, 1), (RX9, TX9, 10), (RX10, TX10, 27)]
def cty : Nat → Nat → FieldType := fun c => match c with
  | 0 => tyJx4a65c
  | 1 => tyX0
  | 2 => tyX1
  | 3 => tyX2
  | 4 => tyX3
  | 5 => tyX4
  | 6 => tyX5
  | 7 => tyX6
  | 8 => tyX7
  | 9 => tyX9
  | _ => tyX10
def ftc (t : FieldType) : Nat := match t with
  | .int => 0
  | .long => 1
  | .object _ => 2
  | .array _ => 2
  | .double => 3
  | _ => 9
def nfl (c : Nat) : Nat := match clt[c]? with
  | some r => r.2.2
  | none => 0
def fv (g : Gp) (h : AH) (c a k : Nat) : Value := match ftc (cty c k) with
  | 0 => .int (zI h a k)
  | 1 => .long (zL h a k)
  | 2 => rv g (zR h a k)
  | _ => .null
def entk (g : Gp) (h : AH) (a t n : Nat) : va_E := match t with
  | 1 => .inr (n, (List.range (nfl n)).map (fv g h n a))
  | 2 => .inl (gA g 2, n, .inl (zI h a))
  | 3 => .inl (gA g 3, n, .inr (.inl (zL h a)))
  | 4 => .inl (gA g 4, n, .inl (zI h a))
  | 5 => .inl (gA g 5, n, .inr (.inr (.inr (.inl (zD h a)))))
  | 6 => .inl (gA g 6, n, .inr (.inr (.inr (.inr (fun j => ro g (zR h a j))))))
  | 7 => .inl (gA g 7, n, .inr (.inr (.inr (.inr (fun j => ro g (zR h a j))))))
  | _ => .inl (gA g 8, n, .inr (.inr (.inr (.inr (fun j => ro g (zR h a j))))))
def ent (g : Gp) (h : AH) (a : Nat) : va_E := entk g h a (zK h a).1 (zK h a).2
def Rep (g : Gp) (h : AH) (H : Heap) : Prop := 4 ≤ zN h ∧ H.size + 4 = gN g + zN h ∧ (∀ a, (a < 4 ∨ zN h ≤ a) → (zK h a).1 = 0) ∧ ∀ a, (zK h a).1 ≠ 0 → va_at (gD g) clt (adr g a, ent g h a) H
/-- the kinds of rows -/
def tyl (g : Gp) : List (ClassId × FieldType) := [(gA g 2, .int), (gA g 3, .long), (gA g 4, .boolean), (gA g 5, .double), (gA g 6, .object "java/lang/Object"), (gA g 7, .object "TonguerootFamily$Votes"), (gA g 8, .array .int)]
def lw_g : List Cond := lw_tbl.filter goodWord
theorem lg_mem {w : Cond} (h : w ∈ lw_tbl) (h2 : goodWord w = true) : w ∈ lw_g := List.mem_filter.mpr ⟨h, h2⟩
theorem lg_ix {w : Cond} {i : Nat} (h : lw_tbl[i]? = some w) (h2 : goodWord w = true) : w ∈ lw_g := lg_mem (List.mem_of_getElem? h) h2
theorem lg_good : GoodIn lw_g lw_g := fun w h => ⟨h, good_of_word (List.mem_filter.mp h).2⟩
/-- words that the walk moves, but not by goodWord -/
def isN (w : Cond) : Bool := match w with
  | .castable _ _ => true
  | .declares _ => true
  | .methodLinkNest _ _ _ _ => true
  | .arrayOver (.object _) => true
  | .arrayOver (.array _) => true
  | _ => false
def lw_n : List Cond := lw_tbl.filter isN
theorem ln_mem {w : Cond} (h : w ∈ lw_tbl) (h2 : isN w = true) : w ∈ lw_n := List.mem_filter.mpr ⟨h, h2⟩
theorem ln_ix {w : Cond} {i : Nat} (h : lw_tbl[i]? = some w) (h2 : isN w = true) : w ∈ lw_n := ln_mem (List.mem_of_getElem? h) h2
theorem nw_use {w : Cond} {A : Array Value} {U : State} (hn : isN w = true) (h : va_Nw w U) : w.before A U = true := by
  cases w with
  | castable a b => exact h.use rfl
  | declares x => exact h.use rfl
  | methodLinkNest a i x b => exact h.use rfl
  | arrayOver t => exact h
  | _ => exact absurd hn (by simp [isN])
theorem ao_movedA {t : FieldType} {u U : State} (hvm : u.vm.Alike U.vm) (h : va_Nw (.arrayOver (.array t)) u) : va_Nw (.arrayOver (.array t)) U := by
  unfold va_Nw Cond.before Cond.holds at h ⊢
  simp only [Cond.value, beq_iff_eq] at h ⊢
  rw [hvm.findClass]
  cases hc : u.vm.findClass (FieldType.array t).toString with
  | none => simp [hc] at h
  | some comp =>
    simp only [hc, Option.bind_some, Option.bind_eq_some_iff, Option.map_eq_some_iff] at h ⊢
    obtain ⟨c, hi, k, hk, hb⟩ := h
    obtain ⟨k', hk', he⟩ := hvm.2.2 _ _ hk
    refine ⟨c, ?_, k', hk', ?_⟩
    · have a := va_idx_bare U.vm comp
      have b := va_idx_bare u.vm comp
      first | rw [hvm.bare_eq] at b | rw [← hvm.bare_eq] at b
      exact (a.symm.trans b).trans hi
    · rw [he, hvm.findClass]
      exact hb
theorem nw_same {w : Cond} {u U : State} (hn : isN w = true) (hv : U.vm = u.vm) (h : va_Nw w u) : va_Nw w U := by
  have hal : u.vm.Alike U.vm := by rw [hv]; exact Vm.Alike.refl _
  cases w with
  | castable a b => exact h.same rfl hv.symm
  | declares x => exact h.same rfl hv.symm
  | methodLinkNest a i x b => exact h.same rfl hv.symm
  | arrayOver t => cases t with
    | object C => exact va_AO.moved hal h
    | array t => exact ao_movedA hal h
    | _ => exact absurd hn (by simp [isN])
  | _ => exact absurd hn (by simp [isN])
theorem nw_warm {w : Cond} {s U : State} (hn : isN w = true) (hW : s.WarmedH U.vm) (h : va_Nw w s) : va_Nw w U := by
  cases w with
  | castable a b => exact h.warmC hW
  | declares x => exact h.warmD hW
  | methodLinkNest a i x b => exact h.warmM hW
  | arrayOver t => cases t with
    | object C => exact va_AO.moved hW.alike h
    | array t => exact ao_movedA hW.alike h
    | _ => exact absurd hn (by simp [isN])
  | _ => exact absurd hn (by simp [isN])
def exN (k : Nat) : String := match k with
  | 1 => "java/lang/IndexOutOfBoundsException"
  | 2 => "java/lang/IllegalArgumentException"
  | _ => "java/lang/IllegalStateException"
/-- what was there before, and stays -/
def Old (g : Gp) (U : State) : Prop := gN g ≤ U.heap.size ∧ gb g < gN g ∧ gt g < gN g ∧ gb g ≠ gt g ∧ va_X (gb g) (gl g) (gx g) U U.heap ∧ va_Z "java/util/ArrayList" "DEFAULTCAPACITY_EMPTY_ELEMENTDATA" "[Ljava/lang/Object;" (.ref (gt g)) (gAd g) U U.heap ∧ va_T (.object "java/lang/Object") (gt g) 0 (fun _ => .null) (gAd g) U U.heap ∧
  vx_Zq Bundle.tN "UNASSIGNED_STACK" Bundle.steD (gAd g) U U.heap ∧ vx_Zq Bundle.tN "SUPPRESSED_SENTINEL" Bundle.listD (gAd g) U U.heap ∧ (∃ q1, vk_R RX9 296 "no such language, meaning, place, law or loan" q1 U) ∧ (∃ q2, vk_R RX9 303 "a number outside of its bounds" q2 U) ∧ (∃ q3, vk_R RX9 308 "not possible as things are" q3 U) ∧ va_Mi "[Ljava/lang/Object;" (gm g) U ∧ (∀ k j, 1 ≤ k → k ≤ 3 → 1 ≤ j → j ≤ 3 → k ≠ j → va_Nc (exN k) (exN j) U) ∧ ∀ w ∈ lw_n, va_Nw w U
theorem Old.same {g : Gp} {u U : State} (hv : U.vm = u.vm) (hh : U.heap = u.heap) (h : Old g u) : Old g U := by
  have ha : u.vm.Alike U.vm := by rw [hv]; exact Vm.Alike.refl _
  obtain ⟨h0, h1, h2, h3, h4, h5, h6, h7, h8, ⟨q1, h9⟩, ⟨q2, h10⟩, ⟨q3, h11⟩, h12, h13, h14⟩ := h
  refine ⟨by rw [hh]; exact h0, h1, h2, h3, ?_, ?_, ?_, ?_, ?_, ⟨q1, h9.same hv⟩, ⟨q2, h10.same hv⟩, ⟨q3, h11.same hv⟩, h12.moved ha, fun k j a1 a2 a3 a4 a5 => (h13 k j a1 a2 a3 a4 a5).moved ha, fun w hw => nw_same (List.mem_filter.mp hw).2 hv (h14 w hw)⟩
  · rw [hh]; exact h4.moved ha
  · rw [hh]; exact h5.moved ha
  · rw [hh]; exact h6.moved ha
  · rw [hh]; exact h7.moved ha
  · rw [hh]; exact h8.moved ha
theorem Old.trans {g : Gp} {s U : State} {locs : List Loc} (hW : s.WarmedH U.vm) (hS : va_S (gAd g) s.heap U.heap locs) (h : Old g s) : Old g U := by
  have ha : s.vm.Alike U.vm := hW.alike
  obtain ⟨h0, h1, h2, h3, h4, h5, h6, h7, h8, ⟨q1, h9⟩, ⟨q2, h10⟩, ⟨q3, h11⟩, h12, h13, h14⟩ := h
  have hk : ∀ a : Nat, a < s.heap.size → ¬ gAd g a → U.heap[a]? = s.heap[a]? := hS.2.1
  refine ⟨Nat.le_trans h0 hS.1, h1, h2, h3, ?_, (h5.kept hk).moved ha, (h6.kept hk).moved ha, (h7.kept hk).moved ha, (h8.kept hk).moved ha, ⟨q1, h9.warm hW⟩, ⟨q2, h10.warm hW⟩, ⟨q3, h11.warm hW⟩, h12.moved ha, fun k j a1 a2 a3 a4 a5 => (h13 k j a1 a2 a3 a4 a5).moved ha, fun w hw => nw_warm (List.mem_filter.mp hw).2 hW (h14 w hw)⟩
  exact (h4.kept (hk _ (by omega) (by unfold gAd; omega))).moved ha
theorem Old.nw {g : Gp} {U : State} (h : Old g U) : ∀ w ∈ lw_n, va_Nw w U := by
  obtain ⟨-, -, -, -, -, -, -, -, -, -, -, -, -, -, h14⟩ := h
  exact h14
/-! ===== methods ===== -/
/-- a class's pool, as far as it is used: its name; fields (entry, class, place, kind); numbers; classes made; classes cast to -/
abbrev CF : Type := String × List (Nat × Nat × Nat × Nat) × List (Nat × AV) × List (Nat × Nat) × List (Nat × Nat)
/-- a method: name, bytes, locals, answer, handlers, depth and cells and slots, its class's pool -/
abbrev MD : Type := MethodName × ByteArray × Nat × Option FieldType × List (Nat × Nat × Nat × Nat) × (Nat × Nat × Nat) × CF
def mY (M : MD) : MethodName := M.1
def mB (M : MD) : ByteArray := M.2.1
def mX (M : MD) : Nat := M.2.2.1
def mR (M : MD) : Option FieldType := M.2.2.2.1
def mH (M : MD) : List (Nat × Nat × Nat × Nat) := M.2.2.2.2.1
def mDp (M : MD) : Nat := M.2.2.2.2.2.1.1
def mC (M : MD) : Nat := M.2.2.2.2.2.1.2.1
def mS (M : MD) : Nat := M.2.2.2.2.2.1.2.2
def mF (M : MD) : CF := M.2.2.2.2.2.2
def mO (M : MD) : String := (mF M).1
def rmM (M : MD) : Room := { frames := mDp M, cells := mC M, slots := mS M, locals := 64 * mDp M + 100 }
def codeW (M : MD) : Cond := match mH M with
  | [] => .code (mY M) (mB M) (mX M) (mR M)
  | x :: r => .codeWith (mY M) (mB M) (mX M) (mR M) (x :: r)
def mW (M : MD) : List Cond := codeW M :: lw_g
def Cx (g : Gp) (M : MD) (p : Program) (l : Launch) (s : State) (m : MethodId) (args : Array Value) (meth : Method) (c : Code) : Prop :=
  p.tables.exec = Jvm.exec ∧ c.code = mB M ∧ meth.sig.returnType = mR M ∧ c.maxLocals = mX M ∧ s.vm.findClass (mO M) = some m.cls ∧ (∀ w ∈ lw_g, w.before args s = true) ∧ meth.locks = false ∧ meth.name = (mY M).name ∧ va_K (gD g) clt (tyl g) s ∧ Old g s ∧ l.stackTraces = false ∧ c.exceptionTable.toList = tableOf (mH M)
def LR (g : Gp) (L : List AV) (ls : Array Slot) : Prop := ls.size = L.length ∧ lv_wf ls ∧ ∀ (i : Nat) (v : AV), L[i]? = some v → v ≠ vU → ls[i]? = some (.val (tv g v))
abbrev PQ : Type := (Option AV ⊕ Nat) → AH → Prop
def Qn (g : Gp) (Q : PQ) : Array Value → State → Outcome → State → Prop := fun _ st o t => (∃ (v : Option AV) (h : AH), o = .returned (v.map (tv g)) ∧ Q (.inl v) h ∧ Rep g h t.heap) ∧ va_F (gAd g) st t
def Qx (g : Gp) (Q : PQ) : String → State → State → Prop := fun E st t => (∃ (k : Nat) (h : AH), E = exN k ∧ Q (.inr k) h ∧ Rep g h t.heap) ∧ va_F (gAd g) st t
/-- from this place of the method on, all ends are Q's -/
def Ex (g : Gp) (M : MD) (pc : Nat) (L : List AV) (st : List AV) (h : AH) (u : Nat × Nat) (Q : PQ) : Prop :=
  ∀ (p : Program) (l : Launch) (e : Env) (s : State) (m : MethodId) (args : Array Value) (below : List Frame) (meth : Method) (c : Code) (H : Heap) (locs : List Loc) (ls : Array Slot),
    Cx g M p l s m args meth c → Rep g h H → va_S (gAd g) s.heap H locs → LR g L ls → L.length = mX M → u.1 ≤ mC M → u.2 ≤ mS M →
    W p l e (rmM M) s m args below meth c H locs u.1 u.2 (vx_MQ below (Qn g Q) (Qx g Q) args s (mC M) (mS M) (gAd g)) (F0 m pc ls (st.map (tv g)))
def Pc (g : Gp) (av : List AV) (h : AH) : Array Value → State → Prop := va_Pc (av.map (tv g)) (fun U => Rep g h U.heap ∧ va_K (gD g) clt (tyl g) U ∧ Old g U)
/-- a call of the method -/
def Ev (g : Gp) (M : MD) (av : List AV) (h : AH) (Q : PQ) : Prop :=
  ∀ l : Launch, l.stackTraces = false → vx_Met l (mY M) (mW M) (rmM M) (Pc g av h) (Qn g Q) (Qx g Q) (mC M) (mS M) (gAd g)
theorem Pc.blind {g : Gp} {av : List AV} {h : AH} : FrameBlind (Pc g av h) := by
  intro a U gf mk ⟨h1, h2, h3, h4⟩
  exact ⟨h1, h2, va_K.moved (u := U) (U := U.calling gf mk a) (Vm.Alike.refl U.vm) h3, h4.same (u := U) (U := U.calling gf mk a) rfl rfl⟩
theorem Ex.mono {g : Gp} {M : MD} {pc : Nat} {L st : List AV} {h : AH} {u : Nat × Nat} {Q Q' : PQ} (hq : ∀ r h', Q r h' → Q' r h') (k : Ex g M pc L st h u Q) : Ex g M pc L st h u Q' := by
  intro p l e s m args below meth c H locs ls hC hR hS hL hl h1 h2 T hT X
  obtain ⟨t, a1, o, b1, b2, b3⟩ := k p l e s m args below meth c H locs ls hC hR hS hL hl h1 h2 T hT X
  refine ⟨t, a1, o, b1, b2, ?_⟩
  rcases b3 with ⟨⟨⟨v, h', c1, c2, c3⟩, c4⟩, c5⟩ | ⟨q, c1, E, ce, L1, ⟨⟨k1, h', d1, d2, d3⟩, d4⟩, d5⟩
  · exact Or.inl ⟨⟨⟨v, h', c1, hq _ _ c2, c3⟩, c4⟩, c5⟩
  · exact Or.inr ⟨q, c1, E, ce, L1, ⟨⟨k1, h', d1, hq _ _ d2, d3⟩, d4⟩, d5⟩
/-- arguments as locals -/
def argL : List AV → List AV
  | [] => []
  | v :: r => match v with
    | .inr (.inl x) => vL x :: vU :: argL r
    | .inr (.inr (.inl x)) => vD x :: vU :: argL r
    | w => w :: argL r
def padL (n : Nat) (L : List AV) : List AV := L ++ List.replicate (n - L.length) vU
theorem tv_cat2 (g : Gp) (v : AV) : (tv g v).category = 2 ↔ ((∃ x, v = vL x) ∨ ∃ x, v = vD x) := by
  rcases v with x | x | x | x | x
  · simp [tv, Value.category]
  · simp [tv, Value.category]
  · simp [tv, Value.category]
  · by_cases hx : x = 0
    · simp [tv, rv, hx, Value.category]
    · simp [tv, rv, hx, Value.category]
  · simp [tv, Value.category]
theorem argL_len (g : Gp) (av : List AV) : (lg_sl (av.map (tv g))).length = (argL av).length := by
  induction av with
  | nil => rfl
  | cons v r ih =>
    have e : lg_sl ((v :: r).map (tv g)) = (if (tv g v).category = 2 then [Slot.val (tv g v), Slot.second] else [Slot.val (tv g v)]) ++ lg_sl (r.map (tv g)) := by
      simp only [lg_sl, List.map_cons, List.flatMap_cons]
      try split <;> rfl
    rw [e]
    rcases v with x | x | x | x | x
    · simp [tv, Value.category, argL, ih]
    · simp [tv, Value.category, argL, ih]
    · simp [tv, Value.category, argL, ih]
    · by_cases hx : x = 0
      · simp [tv, rv, hx, Value.category, argL, ih]
      · simp [tv, rv, hx, Value.category, argL, ih]
    · simp [tv, Value.category, argL, ih]
theorem argL_mem (g : Gp) (av : List AV) : ∀ (j i : Nat) (v : AV), (argL av)[i]? = some v → v ≠ vU → (j + i, tv g v) ∈ lv_args j (av.map (tv g)) := by
  induction av with
  | nil => intro j i v h; simp [argL] at h
  | cons w r ih =>
    intro j i v h hv
    have one : ∀ (h1 : (tv g w).category ≠ 2) (h2 : argL (w :: r) = w :: argL r), (j + i, tv g v) ∈ lv_args j ((w :: r).map (tv g)) := by
      intro h1 h2
      rw [h2] at h
      simp only [List.map_cons, lv_args, if_neg h1]
      cases i with
      | zero => simp only [List.getElem?_cons_zero, Option.some.injEq] at h; subst h; exact List.mem_cons_self
      | succ i => rw [List.getElem?_cons_succ] at h; refine List.mem_cons_of_mem _ ?_; have := ih (j + 1) i v h hv; rwa [show j + 1 + i = j + (i + 1) by omega] at this
    have two : ∀ (h1 : (tv g w).category = 2) (h2 : argL (w :: r) = w :: vU :: argL r), (j + i, tv g v) ∈ lv_args j ((w :: r).map (tv g)) := by
      intro h1 h2
      rw [h2] at h
      simp only [List.map_cons, lv_args, if_pos h1]
      match i, h with
      | 0, h => simp only [List.getElem?_cons_zero, Option.some.injEq] at h; subst h; exact List.mem_cons_self
      | 1, h => simp only [List.getElem?_cons_succ, List.getElem?_cons_zero, Option.some.injEq] at h; exact absurd h.symm hv
      | i + 2, h => rw [List.getElem?_cons_succ, List.getElem?_cons_succ] at h; refine List.mem_cons_of_mem _ ?_; have := ih (j + 2) i v h hv; rwa [show j + 2 + i = j + (i + 2) by omega] at this
    rcases w with x | x | x | x | x
    · exact one (by simp [tv, Value.category]) rfl
    · exact two (by simp [tv, Value.category]) rfl
    · exact two (by simp [tv, Value.category]) rfl
    · exact one (by by_cases hx : x = 0 <;> simp [tv, rv, hx, Value.category]) rfl
    · exact one (by simp [tv, Value.category]) rfl
theorem LR.entry {g : Gp} {av : List AV} {n : Nat} (h : (argL av).length ≤ n) : LR g (padL n (argL av)) ((lg_sl (av.map (tv g)) ++ List.replicate (n - (lg_sl (av.map (tv g))).length) Slot.unset).toArray) := by
  have h0 := lv_entry (av.map (tv g)) (n := n) (by rw [argL_len]; exact h)
  refine ⟨?_, h0.2.1, fun i v hi hv => ?_⟩
  · simp [padL, argL_len]
  · unfold padL at hi
    by_cases hl : i < (argL av).length
    · rw [List.getElem?_append_left hl] at hi
      have := h0.2.2 _ (argL_mem g av 0 i v hi hv)
      simpa using this
    · rw [List.getElem?_append_right (by omega)] at hi
      exact absurd (List.eq_of_mem_replicate (List.mem_of_getElem? hi)) hv
theorem Ev.of {g : Gp} {M : MD} {av : List AV} {h : AH} {Q : PQ} (hpl : plainName (mY M).cls = true) (hown : mO M = (mY M).cls) (hlen : (argL av).length ≤ mX M) (k : Ex g M 0 (padL (mX M) (argL av)) [] h (0, 0) Q) : Ev g M av h Q := by
  intro l hl
  have body : ∀ (p : Program) (e : Env) (s : State) (m : MethodId) (args : Array Value) (below : List Frame) (meth : Method) (c : Code) (s₁ : State), BodyLoose p l (mY M) (headSpec (mW M) (rmM M)) (mB M) (mX M) (mR M) e s m args below meth c s₁ → c.maxLocals = mX M → c.exceptionTable.toList = tableOf (mH M) → Pc g av h args s →
      W p l e (headSpec (mW M) (rmM M)).room s m args below meth c s.heap [] 0 0 (vx_MQ below (Qn g Q) (Qx g Q) args s (mC M) (mS M) (gAd g)) (entryFrame m args (mX M)) := by
    intro p e s m args below meth c s₁ B hml ht hv
    obtain ⟨rfl, hR, hK, hO⟩ := hv
    have hts := atoms_spec (ws := mW M) B.pre
    have how : s.vm.findClass (mO M) = some m.cls := by rw [hown]; exact findClass_of_methodNamed B.named
    rw [lg_entry_eq]
    refine k p l e s m _ below meth c s.heap [] _ ⟨B.exec, B.bytes, B.returns, hml, how, fun w hw => hts w (List.mem_cons_of_mem _ hw), B.notSynchronized, (name_of_methodNamed B.named B.method).1, hK, hO, hl, ht⟩ hR va_S.rf (LR.entry hlen) ?_ (Nat.zero_le _) (Nat.zero_le _)
    simp only [padL, List.length_append, List.length_replicate]
    omega
  cases hH : mH M with
  | nil =>
    refine vx_ofW (cc := mB M) (maxL := mX M) (ret := mR M) (ws' := lw_g) hpl (by simp [mW, codeW, hH]) ?_
    intro p e s m args below meth c s₁ B hml ht hv
    refine body p e s m args below meth c s₁ B hml ?_ hv
    rw [hH]
    cases hx : c.exceptionTable.toList with
    | nil => rfl
    | cons x r => exact absurd (ht x (by rw [hx]; exact List.mem_cons_self)) id
  | cons x r =>
    refine vx_ofWH (cc := mB M) (maxL := mX M) (ret := mR M) (ws' := lw_g) (hh := x :: r) hpl (by simp [mW, codeW, hH]) ?_
    intro p e s m args below meth c s₁ B hml hv
    refine body p e s m args below meth c s₁ B hml ?_ hv
    have hw : (Cond.codeWith (mY M) (mB M) (mX M) (mR M) (x :: r)).before args s = true := atoms_spec (ws := mW M) B.pre _ (by simp [mW, codeW, hH])
    rw [hH]
    exact vx_table (x := mY M) B hw
theorem va_S.Fr {g : Gp} {s t : State} {H : Heap} {locs : List Loc} (h : va_S (gAd g) s.heap H locs) (ht : t.heap = H) : va_F (gAd g) s t := h.F ht
theorem Ex.iret {g : Gp} {M : MD} {pc : Nat} {L : List AV} {x : Int32} {h : AH} {u : Nat × Nat} {Q : PQ} {ty : FieldType} (hr : mR M = some ty) (hn : narrow ty (.int x) = .int x) (hd : decode (mB M) pc = .ok (.ireturn, 1)) (hq : Q (.inl (some (vI x))) h) : Ex g M pc L [vI x] h u Q := by
  intro p l e s m args below meth c H locs ls hC hR hS hL hl h1 h2
  obtain ⟨hx, hb, hrt, -, -, -, hlk, -⟩ := hC
  refine W.widen h1 h2 (vx_ret ?_)
  exact W.zret (v := x) (ty := ty) hx hb (hrt.trans hr) hn (fun t ht hW => ⟨⟨some (vI x), h, rfl, hq, by rw [ht]; exact hR⟩, hS.F ht⟩) hS.2.2 hd hlk
theorem Ex.lret {g : Gp} {M : MD} {pc : Nat} {L : List AV} {x : Int64} {h : AH} {u : Nat × Nat} {Q : PQ} (hr : mR M = some .long) (hd : decode (mB M) pc = .ok (.lreturn, 1)) (hq : Q (.inl (some (vL x))) h) : Ex g M pc L [vL x] h u Q := by
  intro p l e s m args below meth c H locs ls hC hR hS hL hl h1 h2
  obtain ⟨hx, hb, hrt, -, -, -, hlk, -⟩ := hC
  refine W.widen h1 h2 (vx_ret ?_)
  exact W.lret (v := x) hx hb (hrt.trans hr) (fun t ht hW => ⟨⟨some (vL x), h, rfl, hq, by rw [ht]; exact hR⟩, hS.F ht⟩) hS.2.2 hd hlk
theorem Ex.dret {g : Gp} {M : MD} {pc : Nat} {L : List AV} {x : UInt64} {h : AH} {u : Nat × Nat} {Q : PQ} (hr : mR M = some .double) (hd : decode (mB M) pc = .ok (.dreturn, 1)) (hq : Q (.inl (some (vD x))) h) : Ex g M pc L [vD x] h u Q := by
  intro p l e s m args below meth c H locs ls hC hR hS hL hl h1 h2
  obtain ⟨hx, hb, hrt, -, -, -, hlk, -⟩ := hC
  refine W.widen h1 h2 (vx_ret ?_)
  exact W.dret (v := x) hx hb (hrt.trans hr) (fun t ht hW => ⟨⟨some (vD x), h, rfl, hq, by rw [ht]; exact hR⟩, hS.F ht⟩) hS.2.2 hd hlk
theorem Ex.vret {g : Gp} {M : MD} {pc : Nat} {L : List AV} {h : AH} {u : Nat × Nat} {Q : PQ} (hr : mR M = none) (hd : decode (mB M) pc = .ok (.return_, 1)) (hq : Q (.inl none) h) : Ex g M pc L [] h u Q := by
  intro p l e s m args below meth c H locs ls hC hR hS hL hl h1 h2
  obtain ⟨hx, hb, hrt, -, -, -, hlk, -⟩ := hC
  refine W.widen h1 h2 (vx_ret ?_)
  exact W.vret hx hb (hrt.trans hr) (fun t ht hW => ⟨⟨none, h, rfl, hq, by rw [ht]; exact hR⟩, hS.F ht⟩) hS.2.2 hd hlk
theorem rv_or (g : Gp) (x : Nat) : rv g x = .null ∨ ∃ a, rv g x = .ref a := by
  unfold rv
  split
  · exact Or.inl rfl
  · exact Or.inr ⟨_, rfl⟩
theorem Ex.aret {g : Gp} {M : MD} {pc : Nat} {L : List AV} {x : Nat} {h : AH} {u : Nat × Nat} {Q : PQ} {rt : FieldType} (hr : mR M = some rt) (hrt2 : (∃ n, rt = .object n) ∨ ∃ t, rt = .array t) (hd : decode (mB M) pc = .ok (.areturn, 1)) (hq : Q (.inl (some (vR x))) h) : Ex g M pc L [vR x] h u Q := by
  intro p l e s m args below meth c H locs ls hC hR hS hL hl h1 h2
  obtain ⟨hx, hb, hrt, -, -, -, hlk, -⟩ := hC
  refine W.widen h1 h2 (vx_ret ?_)
  exact W.aret (v := rv g x) (rt := rt) hx hb (hrt.trans hr) hrt2 (rv_or g x) (fun t ht hW => ⟨⟨some (vR x), h, rfl, hq, by rw [ht]; exact hR⟩, hS.F ht⟩) hS.2.2 hd hlk
/-! ===== calls ===== -/
/-- the callee's own words: its code, its class, its arguments in number -/
def MOk (N : MD) (n : Nat) : Prop := codeW N ∈ lw_g ∧ Cond.initialized (mY N).cls ∈ lw_g ∧ ((mY N).cls ≠ "java/lang/invoke/MethodHandle" ∧ (mY N).cls ≠ "java/lang/invoke/VarHandle") ∧ (∀ sig, parseMethodDescriptor (mY N).desc = some sig → n = sig.parameters.length) ∧ mX N ≤ 45
theorem mW_good (N : MD) (h : codeW N ∈ lw_g) : GoodIn lw_g (mW N) := fun w hw => (List.mem_cons.mp hw).elim (fun e => by rw [e]; exact lg_good _ h) (fun h2 => lg_good _ h2)
theorem mW_pay {N : MD} {s : State} {args : Array Value} (ht : ∀ w ∈ lw_g, w.before args s = true) (h : codeW N ∈ lw_g) : ∀ w ∈ mW N, ∀ (a' : Array Value) (U : State), s.WarmedH U.vm → w.before a' U = true :=
  pay_in ht (mW_good N h)
theorem Ex.fin {g : Gp} {M : MD} {pc : Nat} {L rest : List AV} {u : Nat × Nat} {Q Q' : PQ} {XK : Nat → AH → Prop} {mc ms : Nat} {a : Array Value} {st0 : List Value}
    {p : Program} {l : Launch} {e : Env} {s : State} {m : MethodId} {args : Array Value} {below : List Frame} {meth : Method} {c : Code} {H : Heap} {locs : List Loc} {ls : Array Slot}
    (hC : Cx g M p l s m args meth c) (hS : va_S (gAd g) s.heap H locs) (hL : LR g L ls) (hl : L.length = mX M) (h1 : u.1 + mc ≤ mC M) (h2 : u.2 + ms ≤ mS M)
    (hr : vx_Run p l e (rmM M) s m args below meth c H locs u.1 u.2 mc ms (F0 m pc ls st0) (rest.map (tv g)) (Qn g Q' a) (Qx g Q') (gAd g))
    (hk : ∀ v h', Q' (.inl v) h' → Ex g M (pc + 3) L (v.toList ++ rest) h' (u.1 + mc, u.2 + ms) Q)
    (hx : ∀ k h', Q' (.inr k) h' → XK k h')
    (hX : ∀ (k : Nat) (h' : AH) (H1 : Heap) (locs1 : List Loc) (q : Addr) (ce : Cell), XK k h' → Rep g h' H1 → va_S (gAd g) s.heap H1 locs1 → H1[q]? = some ce → ce.vm = .none → s.vm.findClass (exN k) = some ce.cls →
      vx_W p l e (rmM M) s m args below meth c H1 locs1 (u.1 + mc) (u.2 + ms) (vx_MQ below (Qn g Q) (Qx g Q) args s (mC M) (mS M) (gAd g)) (F0 m pc ls (rest.map (tv g))) q) :
    W p l e (rmM M) s m args below meth c H locs u.1 u.2 (vx_MQ below (Qn g Q) (Qx g Q) args s (mC M) (mS M) (gAd g)) (F0 m pc ls st0) := by
  intro T hT X
  rcases hr T hT X with ⟨v, st₀, t, T', L1, h0, X', hL1, e1, e2, ⟨⟨v', h', hv, hq, hR⟩, hF⟩, st⟩ | ⟨q, st₀, t, T', L1, E, ce, h0, X', hL1, e1, e2, ⟨⟨k, h', hE, hq, hR⟩, hF⟩, hce, hcv, hcl, st⟩
  · have hv2 : v = v'.map (tv g) := Outcome.returned.inj hv
    subst hv2
    obtain ⟨k1, k2, k3⟩ := vx_keep h0 e1 hS (fun _ _ h => h) (fun _ h => h) hL1 hF
    obtain ⟨t2, a1, b1⟩ := hk v' h' hq p l e s m args below meth c T'.heap (locs ++ L1) ls hC (by rw [e1]; exact hR) k3 hL hl h1 h2 T' rfl X'
    refine ⟨t2, st t2 ?_, b1⟩
    have : (v'.toList ++ rest).map (tv g) = (v'.map (tv g)).toList ++ rest.map (tv g) := by cases v' <;> rfl
    rw [this] at a1
    exact a1
  · subst hE
    obtain ⟨k1, k2, k3⟩ := vx_keep h0 e1 hS (fun _ _ h => h) (fun _ h => h) hL1 hF
    obtain ⟨t2, a1, b1⟩ := hX k h' T'.heap (locs ++ L1) q ce (hx k h' hq) (by rw [e1]; exact hR) k3 (by rw [e1]; exact hce) hcv hcl T' rfl X'
    exact ⟨t2, st.trans a1, b1⟩
theorem Ex.out {g : Gp} {M : MD} {pc : Nat} {rest : List AV} {uc us : Nat} {Q : PQ} {k : Nat} {h' : AH} {p : Program} {l : Launch} {e : Env} {s : State} {m : MethodId} {args : Array Value} {below : List Frame} {meth : Method} {c : Code} {H1 : Heap} {locs1 : List Loc} {ls : Array Slot} {q : Addr} {ce : Cell}
    (hH : mH M = []) (hC : Cx g M p l s m args meth c) (h1 : uc ≤ mC M) (h2 : us ≤ mS M) (hq : Q (.inr k) h') (hR : Rep g h' H1) (hS : va_S (gAd g) s.heap H1 locs1) (hce : H1[q]? = some ce) (hcv : ce.vm = .none) (hcl : s.vm.findClass (exN k) = some ce.cls) :
    vx_W p l e (rmM M) s m args below meth c H1 locs1 uc us (vx_MQ below (Qn g Q) (Qx g Q) args s (mC M) (mS M) (gAd g)) (F0 m pc ls (rest.map (tv g))) q := by
  obtain ⟨-, -, -, -, -, -, hlk, -, -, -, -, htb⟩ := hC
  refine vx_out (fun x hx => ?_) hlk hce hcv hcl (fun t ht _ => ⟨⟨k, h', rfl, hq, by rw [ht]; exact hR⟩, hS.F ht⟩) hS.2.2 h1 h2
  rw [htb, hH] at hx
  exact absurd hx (by simp [tableOf])
theorem callB_M {g : Gp} {M N : MD} {p : Program} {l : Launch} {s : State} {m : MethodId} {args : Array Value} {meth : Method} {c : Code} {n i : Nat} (hC : Cx g M p l s m args meth c) (hN : MOk N n) (hcode : mH N = []) (hl : Cond.methodLink (mO M) i (mY N) ∈ lw_g) (hdp : mDp N + 1 ≤ mDp M) :
    CallB (rmM M) s args (mO M) i (mY N) (mB N) (mX N) (mR N) (mW N) (rmM N) (mC N) (mS N) n := by
  obtain ⟨-, -, -, -, -, hts, -⟩ := hC
  obtain ⟨k1, k2, k3, k4, k5⟩ := hN
  have hcw : codeW N = Cond.code (mY N) (mB N) (mX N) (mR N) := by simp [codeW, hcode]
  refine ⟨rfl, rfl, hdp, ?_, mW_pay hts k1, by rw [← hcw]; exact List.mem_cons_self, by rw [← hcw]; exact hts _ k1, hts _ k2, k3, k4, hts _ hl⟩
  show 8 + (mX N + 11) + (64 * mDp N + 100) ≤ 64 * mDp M + 100
  omega
theorem lr_room {g : Gp} {m : MethodId} {pc : Nat} {ls : Array Slot} {st : List Value} {rest : List AV} (h : rest.length ≤ 4) : 2 * (F0 m pc ls st).monitorRoom + ((rest.map (tv g)).map fun v => v.category).sum ≤ 8 := by
  refine lv_room ?_
  have hc : ∀ v : Value, v.category ≤ 2 := fun v => by cases v <;> simp [Value.category]
  have : ∀ r : List AV, ((r.map (tv g)).map fun v => v.category).sum ≤ 2 * r.length := by
    intro r
    induction r with
    | nil => simp
    | cons x r ih => simp only [List.map_cons, List.sum_cons, List.length_cons]; have := hc (tv g x); omega
  have := this rest
  omega
theorem Pc.at {g : Gp} {av : List AV} {h : AH} {H : Heap} {s : State} {locs : List Loc} (hR : Rep g h H) (hK : va_K (gD g) clt (tyl g) s) (hO : Old g s) (hS : va_S (gAd g) s.heap H locs) : ∀ U : State, U.heap = H → s.WarmedH U.vm → Pc g av h (av.map (tv g)).toArray U := by
  intro U hU hW
  exact ⟨rfl, by rw [hU]; exact hR, va_K.moved hW.alike hK, Old.trans (locs := locs) hW (by rw [hU]; exact hS) hO⟩
theorem Ex.callS {g : Gp} {M N : MD} {pc i : Nat} {L rest av : List AV} {h : AH} {u : Nat × Nat} {Q Q' : PQ} (hM : mH M = []) (hN : MOk N av.length) (hcode : mH N = []) (hl : Cond.methodLink (mO M) i (mY N) ∈ lw_g) (hst : Cond.static (mY N) ∈ lw_g) (hdp : mDp N + 1 ≤ mDp M) (h1 : u.1 + mC N ≤ mC M) (h2 : u.2 + mS N ≤ mS M) (hrest : rest.length ≤ 4) (hd : decode (mB M) pc = .ok (.invokestatic i, 3))
    (ev : Ev g N av h Q') (hk : ∀ v h', Q' (.inl v) h' → Ex g M (pc + 3) L (v.toList ++ rest) h' (u.1 + mC N, u.2 + mS N) Q) (hx : ∀ k h', Q' (.inr k) h' → Q (.inr k) h') : Ex g M pc L (av.reverse ++ rest) h u Q := by
  intro p l e s m args below meth c H locs ls hC hR hS hL hl0 g1 g2
  obtain ⟨hX, hb, hrt, hml, how, hts, hlk, hnm, hK, hO, hlt, htb⟩ := id hC
  refine Ex.fin (a := (av.map (tv g)).toArray) (XK := fun k h' => Q (.inr k) h') hC hS hL hl0 h1 h2 ?_ hk hx (fun k h' H1 locs1 q ce z1 z2 z3 z4 z5 z6 => Ex.out hM hC h1 h2 z1 z2 z3 z4 z5 z6)
  exact vx_runS (As := av.map (tv g)) (rest := rest.map (tv g)) ⟨hX, hb, hml, how, hts⟩ (ev l hlt) ⟨callB_M hC hN hcode hl hdp, hts _ hst⟩ ⟨Pc.blind, Pc.at hR hK hO hS⟩ rfl (by simp) (by rw [← hl0]; exact hL.1) (by simp) (lr_room hrest) hd ⟨h1, h2⟩
theorem rep_recv {g : Gp} {h : AH} {H : Heap} {s : State} {x c : Nat} {r : vw_C} (hR : Rep g h H) (hK : va_K (gD g) clt (tyl g) s) (hx : zK h x = (1, c)) (hc : clt[c]? = some r) : ∃ cell : Cell, H[adr g x]? = some cell ∧ cell.vm.isStatics = false ∧ s.vm.findClass r.1 = some cell.cls := by
  have h1 := hR.2.2.2 x (by rw [hx]; exact Nat.one_ne_zero)
  have he : ent g h x = .inr (c, (List.range (nfl c)).map (fv g h c x)) := by simp [ent, entk, hx]
  rw [he] at h1
  have hP : va_P (gD g) clt [(adr g x, .inr (c, (List.range (nfl c)).map (fv g h c x)))] H := fun k q hq => by
    match k, hq with
    | 0, hq => cases hq; exact h1
    | k + 1, hq => simp at hq
  exact va_recv hK hP hc (q0 := 0) rfl
theorem Ex.callV {g : Gp} {M N : MD} {pc i x ci : Nat} {r : vw_C} {L rest av : List AV} {h : AH} {u : Nat × Nat} {Q Q' : PQ} (hM : mH M = []) (hN : MOk N av.length) (hcode : mH N = []) (hl : Cond.methodLink (mO M) i (mY N) ∈ lw_g) (hin : Cond.instanceMethod (mY N) ∈ lw_g) (hse : Cond.selects r.1 (mY N) (mY N) ∈ lw_g) (hc : clt[ci]? = some r) (hx0 : zK h x = (1, ci)) (hdp : mDp N + 1 ≤ mDp M) (h1 : u.1 + mC N ≤ mC M) (h2 : u.2 + mS N ≤ mS M) (hrest : rest.length ≤ 4) (hd : decode (mB M) pc = .ok (.invokevirtual i, 3))
    (ev : Ev g N (vR x :: av) h Q') (hk : ∀ v h', Q' (.inl v) h' → Ex g M (pc + 3) L (v.toList ++ rest) h' (u.1 + mC N, u.2 + mS N) Q) (hx : ∀ k h', Q' (.inr k) h' → Q (.inr k) h') : Ex g M pc L (av.reverse ++ vR x :: rest) h u Q := by
  intro p l e s m args below meth c H locs ls hC hR hS hL hl0 g1 g2
  obtain ⟨hX, hb, hrt, hml, how, hts, hlk, hnm, hK, hO, hlt, htb⟩ := id hC
  have hx3 : x ≠ 0 := fun h0 => by have := hR.2.2.1 x (Or.inl (by omega)); rw [hx0] at this; exact Nat.one_ne_zero this
  have hv : tv g (vR x) = .ref (adr g x) := by simp [tv, rv, hx3]
  refine Ex.fin (a := (Value.ref (adr g x) :: av.map (tv g)).toArray) (XK := fun k h' => Q (.inr k) h') hC hS hL hl0 h1 h2 ?_ hk hx (fun k h' H1 locs1 q ce z1 z2 z3 z4 z5 z6 => Ex.out hM hC h1 h2 z1 z2 z3 z4 z5 z6)
  refine vx_runV (b := adr g x) (C := r.1) (As := av.map (tv g)) (rest := rest.map (tv g)) ⟨hX, hb, hml, how, hts⟩ (ev l hlt) ⟨callB_M hC hN hcode hl hdp, hts _ hin, hts _ hse⟩ ⟨Pc.blind, rep_recv hR hK hx0 hc, fun U hU hW => ?_⟩ rfl (by simp) (by rw [← hl0]; exact hL.1) (by simp [hv]) (lr_room hrest) hd ⟨h1, h2⟩
  have := Pc.at (av := vR x :: av) hR hK hO hS U hU hW
  rw [List.map_cons, hv] at this
  exact this
theorem Ex.callI {g : Gp} {M N : MD} {pc i x : Nat} {L rest av : List AV} {h : AH} {u : Nat × Nat} {Q Q' : PQ} (hM : mH M = []) (hN : MOk N av.length) (hcode : mH N = []) (hret : mR N = none) (hini : (mY N).name = "<init>") (hl : Cond.methodLink (mO M) i (mY N) ∈ lw_g) (hin : Cond.instanceMethod (mY N) ∈ lw_g) (hx0 : x ≠ 0) (hdp : mDp N + 1 ≤ mDp M) (h1 : u.1 + mC N ≤ mC M) (h2 : u.2 + mS N ≤ mS M) (hrest : rest.length ≤ 4) (hd : decode (mB M) pc = .ok (.invokespecial i, 3))
    (ev : Ev g N (vR x :: av) h Q') (hk : ∀ v h', Q' (.inl v) h' → Ex g M (pc + 3) L (v.toList ++ rest) h' (u.1 + mC N, u.2 + mS N) Q) (hx : ∀ k h', Q' (.inr k) h' → Q (.inr k) h') : Ex g M pc L (av.reverse ++ vR x :: rest) h u Q := by
  intro p l e s m args below meth c H locs ls hC hR hS hL hl0 g1 g2
  obtain ⟨hX, hb, hrt, hml, how, hts, hlk, hnm, hK, hO, hlt, htb⟩ := id hC
  have hv : tv g (vR x) = .ref (adr g x) := by simp [tv, rv, hx0]
  refine Ex.fin (a := (Value.ref (adr g x) :: av.map (tv g)).toArray) (XK := fun k h' => Q (.inr k) h') hC hS hL hl0 h1 h2 ?_ hk hx (fun k h' H1 locs1 q ce z1 z2 z3 z4 z5 z6 => Ex.out hM hC h1 h2 z1 z2 z3 z4 z5 z6)
  have cb := callB_M hC hN hcode hl hdp
  rw [hret] at cb
  refine vx_runI (b := adr g x) (As := av.map (tv g)) (rest := rest.map (tv g)) ⟨hX, hb, hml, how, hts⟩ (ev l hlt) ⟨cb, hini, hts _ hin⟩ ⟨Pc.blind, fun U hU hW => ?_⟩ rfl (by simp) (by rw [← hl0]; exact hL.1) (by simp [hv]) (lr_room hrest) hd ⟨h1, h2⟩
  have := Pc.at (av := vR x :: av) hR hK hO hS U hU hW
  rw [List.map_cons, hv] at this
  exact this
theorem Ex.callIN {g : Gp} {M N : MD} {pc i x : Nat} {host : String} {L rest av : List AV} {h : AH} {u : Nat × Nat} {Q Q' : PQ} (hM : mH M = []) (hN : MOk N av.length) (hcode : mH N = []) (hret : mR N = none) (hini : (mY N).name = "<init>") (hl : Cond.methodLinkNest (mO M) i (mY N) host ∈ lw_n) (hin : Cond.instanceMethod (mY N) ∈ lw_g) (hx0 : x ≠ 0) (hdp : mDp N + 1 ≤ mDp M) (h1 : u.1 + mC N ≤ mC M) (h2 : u.2 + mS N ≤ mS M) (hrest : rest.length ≤ 4) (hd : decode (mB M) pc = .ok (.invokespecial i, 3))
    (ev : Ev g N (vR x :: av) h Q') (hk : ∀ v h', Q' (.inl v) h' → Ex g M (pc + 3) L (v.toList ++ rest) h' (u.1 + mC N, u.2 + mS N) Q) (hx : ∀ k h', Q' (.inr k) h' → Q (.inr k) h') : Ex g M pc L (av.reverse ++ vR x :: rest) h u Q := by
  intro p l e s m args below meth c H locs ls hC hR hS hL hl0 g1 g2
  obtain ⟨hX, hb, hrt, hml, how, hts, hlk, hnm, hK, hO, hlt, htb⟩ := id hC
  have hv : tv g (vR x) = .ref (adr g x) := by simp [tv, rv, hx0]
  refine Ex.fin (a := (Value.ref (adr g x) :: av.map (tv g)).toArray) (XK := fun k h' => Q (.inr k) h') hC hS hL hl0 h1 h2 ?_ hk hx (fun k h' H1 locs1 q ce z1 z2 z3 z4 z5 z6 => Ex.out hM hC h1 h2 z1 z2 z3 z4 z5 z6)
  obtain ⟨k1, k2, k3, k4, k5⟩ := id hN
  have hcw : codeW N = Cond.code (mY N) (mB N) (mX N) none := by simp [codeW, hcode, hret]
  have cb : va_CN (rmM M) s args (mO M) i (mY N) host (mB N) (mX N) none (mW N) (rmM N) (mC N) (mS N) av.length := by
    refine ⟨⟨rfl, rfl, hdp, ?_, mW_pay hts k1, by rw [← hcw]; exact List.mem_cons_self⟩, by rw [← hcw]; exact hts _ k1, hts _ k2, k3, k4, hO.nw _ hl⟩
    show 8 + (mX N + 11) + (64 * mDp N + 100) ≤ 64 * mDp M + 100
    omega
  refine vx_runIN (b := adr g x) (As := av.map (tv g)) (rest := rest.map (tv g)) ⟨hX, hb, hml, how, hts⟩ (ev l hlt) ⟨cb, hini, hts _ hin⟩ ⟨Pc.blind, fun U hU hW => ?_⟩ rfl (by simp) (by rw [← hl0]; exact hL.1) (by simp [hv]) (lr_room hrest) hd ⟨h1, h2⟩
  have := Pc.at (av := vR x :: av) hR hK hO hS U hU hW
  rw [List.map_cons, hv] at this
  exact this
/-- a static call of a method with handlers -/
theorem Ex.callSW {g : Gp} {M N : MD} {pc i : Nat} {hh : List (Nat × Nat × Nat × Nat)} {L rest av : List AV} {h : AH} {u : Nat × Nat} {Q Q' : PQ} (hM : mH M = []) (hN : MOk N av.length) (hcode : mH N = hh) (hne : hh ≠ []) (hl : Cond.methodLink (mO M) i (mY N) ∈ lw_g) (hst : Cond.static (mY N) ∈ lw_g) (hdp : mDp N + 1 ≤ mDp M) (h1 : u.1 + mC N ≤ mC M) (h2 : u.2 + mS N ≤ mS M) (hrest : rest.length ≤ 4) (hd : decode (mB M) pc = .ok (.invokestatic i, 3))
    (ev : Ev g N av h Q') (hk : ∀ v h', Q' (.inl v) h' → Ex g M (pc + 3) L (v.toList ++ rest) h' (u.1 + mC N, u.2 + mS N) Q) (hx : ∀ k h', Q' (.inr k) h' → Q (.inr k) h') : Ex g M pc L (av.reverse ++ rest) h u Q := by
  intro p l e s m args below meth c H locs ls hC hR hS hL hl0 g1 g2
  obtain ⟨hX, hb, hrt, hml, how, hts, hlk, hnm, hK, hO, hlt, htb⟩ := id hC
  refine Ex.fin (a := (av.map (tv g)).toArray) (XK := fun k h' => Q (.inr k) h') hC hS hL hl0 h1 h2 ?_ hk hx (fun k h' H1 locs1 q ce z1 z2 z3 z4 z5 z6 => Ex.out hM hC h1 h2 z1 z2 z3 z4 z5 z6)
  obtain ⟨k1, k2, k3, k4, k5⟩ := id hN
  have hcw : codeW N = Cond.codeWith (mY N) (mB N) (mX N) (mR N) hh := by
    subst hcode
    unfold codeW
    split
    · rename_i hq; exact absurd hq hne
    · rename_i hq; rw [hq]
  have cb : vx_CSW (rmM M) s args (mO M) i (mY N) (mB N) (mX N) (mR N) hh (mW N) (rmM N) (mC N) (mS N) av.length := by
    refine ⟨⟨rfl, rfl, hdp, ?_, mW_pay hts k1, by rw [← hcw]; exact List.mem_cons_self⟩, by rw [← hcw]; exact hts _ k1, hts _ k2, k3, k4, hts _ hl, hts _ hst⟩
    show 8 + (mX N + 11) + (64 * mDp N + 100) ≤ 64 * mDp M + 100
    omega
  exact vx_runSX (As := av.map (tv g)) (rest := rest.map (tv g)) ⟨hX, hb, hml, how, hts⟩ (ev l hlt) cb ⟨Pc.blind, Pc.at hR hK hO hS⟩ rfl (by simp) (by rw [← hl0]; exact hL.1) (by simp) (lr_room hrest) hd ⟨h1, h2⟩
