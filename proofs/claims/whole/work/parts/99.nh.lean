/-! ===== the start: what the Statement gives, as the walk wants it ===== -/
theorem clt_inst : ∀ (c : Nat) (q : vw_C), clt[c]? = some q → ∃ n, Cond.instantiable q.1 n ∈ lw_tbl := by
  intro c q hq
  match c, hq with
  | 0, hq => cases hq; exact ⟨3, lm_1 (i := 66) (by decide +kernel)⟩
  | 1, hq => cases hq; exact ⟨8, lm_1 (i := 221) (by decide +kernel)⟩
  | 2, hq => cases hq; exact ⟨2, lm_1 (i := 175) (by decide +kernel)⟩
  | 3, hq => cases hq; exact ⟨2, lm_1 (i := 93) (by decide +kernel)⟩
  | 4, hq => cases hq; exact ⟨4, lm_2 (i := 134) (by decide +kernel)⟩
  | 5, hq => cases hq; exact ⟨7, lm_1 (i := 192) (by decide +kernel)⟩
  | 6, hq => cases hq; exact ⟨4, lm_4 (i := 59) (by decide +kernel)⟩
  | 7, hq => cases hq; exact ⟨2, lm_1 (i := 43) (by decide +kernel)⟩
  | 8, hq => cases hq; exact ⟨1, lm_2 (i := 14) (by decide +kernel)⟩
  | 9, hq => cases hq; exact ⟨10, lm_1 (i := 35) (by decide +kernel)⟩
  | 10, hq => cases hq; exact ⟨27, lm_6 (i := 76) (by decide +kernel)⟩
  | c + 11, hq => simp [clt] at hq
theorem st_K {s : State} {args : Array Value} (hts : ∀ w ∈ lw_tbl, w.before args s = true) : ∃ D : va_G, ∀ (c : Nat) (q : vw_C), clt[c]? = some q → u_Kn s q.1 q.2.1 q.2.2 (D.1 c) (D.2 c) := by
  have h : ∀ c : Nat, ∃ x : ClassId × (Nat → Nat), ∀ q : vw_C, clt[c]? = some q → u_Kn s q.1 q.2.1 q.2.2 x.1 x.2 := by
    intro c
    cases hc : clt[c]? with
    | none => exact ⟨((0 : Nat), fun _ => 0), fun q hq => by cases hq⟩
    | some q =>
      obtain ⟨n, hn⟩ := clt_inst c q hc
      obtain ⟨cC, iS, hk⟩ := u_known (C := q.1) (T := q.2.1) (N := q.2.2) (n := n) hts (cok c q hc).1 (hts _ hn)
      exact ⟨(cC, iS), fun q' hq' => by cases hq'; exact hk⟩
  exact ⟨(fun c => (Classical.choose (h c)).1, fun c => (Classical.choose (h c)).2), fun c q hq => Classical.choose_spec (h c) q hq⟩
theorem st_prim {s : State} {args : Array Value} {t : FieldType} (ht : ∀ C, t ≠ .object C) (h : (Cond.arrayClass t).before args s = true) : ∃ cA, ArrOfT s cA t ∧ va_RA s cA t := by
  obtain ⟨c, k, comp, h1, h2, h3⟩ := Cond.arrayClass_spec h
  refine ⟨c, fun n z => ⟨fun k h => (by cases h), k, h2, comp, h3⟩, ?_⟩
  cases t with
  | object C => exact absurd rfl (ht C)
  | _ => exact h1
theorem st_obj {s : State} {args : Array Value} {C : String} (h : (Cond.arrayOver (.object C)).before args s = true) : ∃ cA, ArrOfT s cA (.object C) ∧ va_RA s cA (.object C) := by
  obtain ⟨comp, c, k, h1, -, h2, h3, h4⟩ := Cond.arrayOver_spec h
  exact ⟨c, fun n z => ⟨fun k h => (by cases h), k, h2, comp, h3⟩, k, comp, h2, h3, h1, h4⟩
theorem st_arr {s : State} {args : Array Value} {t : FieldType} (h : (Cond.arrayOver (.array t)).before args s = true) : ∃ cA, ArrOfT s cA (.array t) ∧ va_RA s cA (.array t) := by
  unfold Cond.before at h
  simp only [Cond.holds, Cond.value, beq_iff_eq] at h
  cases hc : s.vm.findClass (FieldType.array t).toString with
  | none => simp [hc] at h
  | some comp =>
    simp only [hc, Option.bind_some, Option.bind_eq_some_iff, Option.map_eq_some_iff] at h
    obtain ⟨c, hi, k, hk, hb⟩ := h
    obtain ⟨hlt, hp, -⟩ := Array.findIdx?_eq_some_iff_getElem.mp hi
    have hkk : s.vm.classes[c] = k := (Array.getElem?_eq_some_iff.mp hk).2
    rw [hkk] at hp
    cases hkind : k.kind with
    | array component ty =>
      rw [hkind] at hb hp
      simp at hb hp
      exact ⟨c, fun n z => ⟨fun k h => (by cases h), k, hk, comp, by rw [hkind, hp, hb.1]⟩, hb.2⟩
    | _ => rw [hkind] at hb; simp at hb
theorem st_A {s : State} {args : Array Value} (hts : ∀ w ∈ lw_tbl, w.before args s = true) : ∃ A : Nat → ClassId, ∀ (k : Nat) (q : ClassId × FieldType), ([(A 2, .int), (A 3, .long), (A 4, .boolean), (A 5, .double), (A 6, .object "java/lang/Object"), (A 7, .object "TonguerootFamily$Votes"), (A 8, .array .int)] : List (ClassId × FieldType))[k]? = some q → ArrOfT s q.1 q.2 ∧ va_RA s q.1 q.2 := by
  obtain ⟨a2, h2⟩ := st_prim (t := .int) (fun C h => by cases h) (hts _ (lm_1 (i := 61) (by decide +kernel)))
  obtain ⟨a3, h3⟩ := st_prim (t := .long) (fun C h => by cases h) (hts _ (lm_1 (i := 91) (by decide +kernel)))
  obtain ⟨a4, h4⟩ := st_prim (t := .boolean) (fun C h => by cases h) (hts _ (lm_1 (i := 219) (by decide +kernel)))
  obtain ⟨a5, h5⟩ := st_prim (t := .double) (fun C h => by cases h) (hts _ (lm_7 (i := 228) (by decide +kernel)))
  obtain ⟨a6, h6⟩ := st_obj (C := "java/lang/Object") (hts _ (lm_1 (i := 164) (by decide +kernel)))
  obtain ⟨a7, h7⟩ := st_obj (C := "TonguerootFamily$Votes") (hts _ (lm_2 (i := 13) (by decide +kernel)))
  obtain ⟨a8, h8⟩ := st_arr (t := .int) (hts _ (lm_1 (i := 49) (by decide +kernel)))
  refine ⟨fun k => if k = 2 then a2 else if k = 3 then a3 else if k = 4 then a4 else if k = 5 then a5 else if k = 6 then a6 else if k = 7 then a7 else a8, ?_⟩
  intro k q hq
  match k, hq with
  | 0, hq => cases hq; exact h2
  | 1, hq => cases hq; exact h3
  | 2, hq => cases hq; exact h4
  | 3, hq => cases hq; exact h5
  | 4, hq => cases hq; exact h6
  | 5, hq => cases hq; exact h7
  | 6, hq => cases hq; exact h8
  | k + 7, hq => simp at hq
theorem nw_of {w : Cond} {A : Array Value} {U : State} (hn : isN w = true) (h : w.before A U = true) : va_Nw w U := by
  cases w with
  | castable a b => exact va_any rfl h
  | declares x => exact va_any rfl h
  | methodLinkNest a i x b => exact va_any rfl h
  | arrayOver t => exact h
  | _ => exact absurd hn (by simp [isN])
theorem st_str {s : State} {args : Array Value} {own tx : String} {k : Nat} (h1 : (Cond.stringRef own k tx).before args s = true) (h2 : (Cond.exactly (.string own k) "java/lang/String").before args s = true) : ∃ q, vk_R own k tx q s := by
  obtain ⟨a, -, -, -, h3, -⟩ := Cond.exactly_spec h2
  exact ⟨a, vk_R.of h1 h3⟩
theorem st_Nc {s : State} {args : Array Value} (h : ∀ k j : Nat, 1 ≤ k → k ≤ 3 → 1 ≤ j → j ≤ 3 → k ≠ j → (Cond.not (.castable (exN k) (exN j))).before args s = true) : ∀ k j, 1 ≤ k → k ≤ 3 → 1 ≤ j → j ≤ 3 → k ≠ j → va_Nc (exN k) (exN j) s := fun k j a1 a2 a3 a4 a5 => va_Nc.of (h k j a1 a2 a3 a4 a5)
theorem st_Old {s : State} {b L : Nat} {xs : Nat → Int32} (hts : ∀ w ∈ lw_tbl, w.before #[Value.ref b] s = true) (hgv : (Jvm.Cond.and given_1 narrow_1).before #[Value.ref b] s = true) (hX : va_X b L xs s s.heap) (hbl : b < s.heap.size) : ∃ t mi : Nat, ∀ (D : va_G) (A : Nat → ClassId), Old (s.heap.size, b, t, mi, L, xs, D, A) s := by
  have hs := flat_of_before _ hgv
  have hA : ∀ a : Nat, a < s.heap.size → ¬ (fun q : Nat => s.heap.size ≤ q) a := fun a h => Nat.not_le.mpr h
  have e1 : (Cond.arrayOf (.static "java/util/ArrayList" "DEFAULTCAPACITY_EMPTY_ELEMENTDATA" "[Ljava/lang/Object;") (.object "java/lang/Object")).before #[Value.ref b] s = true := hs _ (by decide +kernel)
  have e2 : (Cond.eq (.length (.static "java/util/ArrayList" "DEFAULTCAPACITY_EMPTY_ELEMENTDATA" "[Ljava/lang/Object;")) (.int 0)).before #[Value.ref b] s = true := hs _ (by decide +kernel)
  have e3 : (Cond.isRef (.static "java/lang/Throwable" "UNASSIGNED_STACK" "[Ljava/lang/StackTraceElement;")).before #[Value.ref b] s = true := hs _ (by decide +kernel)
  have e4 : (Cond.isRef (.static "java/lang/Throwable" "SUPPRESSED_SENTINEL" "Ljava/util/List;")).before #[Value.ref b] s = true := hs _ (by decide +kernel)
  have e5 : (Cond.isRef (.mirror "[Ljava/lang/Object;")).before #[Value.ref b] s = true := hs _ (by decide +kernel)
  have f1 : (Cond.exactly (.string "TonguerootFamily" 296) "java/lang/String").before #[Value.ref b] s = true := hs _ (by decide +kernel)
  have f2 : (Cond.exactly (.string "TonguerootFamily" 303) "java/lang/String").before #[Value.ref b] s = true := hs _ (by decide +kernel)
  have f3 : (Cond.exactly (.string "TonguerootFamily" 308) "java/lang/String").before #[Value.ref b] s = true := hs _ (by decide +kernel)
  have n12 : (Cond.not (.castable "java/lang/IndexOutOfBoundsException" "java/lang/IllegalArgumentException")).before #[Value.ref b] s = true := hs _ (by decide +kernel)
  have n13 : (Cond.not (.castable "java/lang/IndexOutOfBoundsException" "java/lang/IllegalStateException")).before #[Value.ref b] s = true := hs _ (by decide +kernel)
  have n21 : (Cond.not (.castable "java/lang/IllegalArgumentException" "java/lang/IndexOutOfBoundsException")).before #[Value.ref b] s = true := hs _ (by decide +kernel)
  have n23 : (Cond.not (.castable "java/lang/IllegalArgumentException" "java/lang/IllegalStateException")).before #[Value.ref b] s = true := hs _ (by decide +kernel)
  have n31 : (Cond.not (.castable "java/lang/IllegalStateException" "java/lang/IndexOutOfBoundsException")).before #[Value.ref b] s = true := hs _ (by decide +kernel)
  have n32 : (Cond.not (.castable "java/lang/IllegalStateException" "java/lang/IllegalArgumentException")).before #[Value.ref b] s = true := hs _ (by decide +kernel)
  have l1 : (Cond.laysStatic "java/util/ArrayList" "DEFAULTCAPACITY_EMPTY_ELEMENTDATA" "[Ljava/lang/Object;").before #[Value.ref b] s = true := hts _ (lm_1 (i := 78) (by decide +kernel))
  have l2 : (Cond.laysStatic "java/lang/Throwable" "UNASSIGNED_STACK" "[Ljava/lang/StackTraceElement;").before #[Value.ref b] s = true := hts _ (lm_3 (i := 106) (by decide +kernel))
  have l3 : (Cond.laysStatic "java/lang/Throwable" "SUPPRESSED_SENTINEL" "Ljava/util/List;").before #[Value.ref b] s = true := hts _ (lm_3 (i := 108) (by decide +kernel))
  have i1 : (Cond.initialized "java/util/ArrayList").before #[Value.ref b] s = true := hts _ (lm_1 (i := 6) (by decide +kernel))
  have i2 : (Cond.initialized "java/lang/Throwable").before #[Value.ref b] s = true := hts _ (lm_1 (i := 16) (by decide +kernel))
  have s1 : (Cond.stringRef "TonguerootFamily" 296 "no such language, meaning, place, law or loan").before #[Value.ref b] s = true := hts _ (lm_3 (i := 234) (by decide +kernel))
  have s2 : (Cond.stringRef "TonguerootFamily" 303 "a number outside of its bounds").before #[Value.ref b] s = true := hts _ (lm_3 (i := 120) (by decide +kernel))
  have s3 : (Cond.stringRef "TonguerootFamily" 308 "not possible as things are").before #[Value.ref b] s = true := hts _ (lm_3 (i := 203) (by decide +kernel))
  obtain ⟨t, ht, hT⟩ := va_Tof (N := 0) (f := fun _ => .null) (A := fun q => s.heap.size ≤ q) (by decide) e1 (va_eqt e2) (fun j hj => absurd hj (Nat.not_lt_zero j)) hA
  obtain ⟨mi, hM⟩ := va_Mi.of e5
  have hZ := va_Zref (A := fun q => s.heap.size ≤ q) l1 i1 ht hA
  have hU := vx_Zqof (A := fun q => s.heap.size ≤ q) l2 i2 e3 hA
  have hV := vx_Zqof (A := fun q => s.heap.size ≤ q) l3 i2 e4 hA
  have hne : b ≠ t := by
    rintro rfl
    obtain ⟨c1, x1, ⟨-, k1, y1, d1, z1⟩, -⟩ := hX
    obtain ⟨c2, x2, ⟨-, k2, y2, d2, z2⟩, -⟩ := hT
    cases Option.some.inj (x1.symm.trans x2)
    cases Option.some.inj (y1.symm.trans y2)
    rw [z1] at z2
    cases z2
  have htl : t < s.heap.size := Nat.not_le.mp hT.out
  have hN : ∀ k j : Nat, 1 ≤ k → k ≤ 3 → 1 ≤ j → j ≤ 3 → k ≠ j → (Cond.not (.castable (exN k) (exN j))).before #[Value.ref b] s = true := by
    intro k j a1 a2 a3 a4 a5
    rcases (show k = 1 ∨ k = 2 ∨ k = 3 by omega) with rfl | rfl | rfl <;> rcases (show j = 1 ∨ j = 2 ∨ j = 3 by omega) with rfl | rfl | rfl
    · exact absurd rfl a5
    · exact n12
    · exact n13
    · exact n21
    · exact absurd rfl a5
    · exact n23
    · exact n31
    · exact n32
    · exact absurd rfl a5
  refine ⟨t, mi, fun D A => ⟨Nat.le_refl _, hbl, htl, hne, hX, hZ, hT, hU, hV, st_str s1 f1, st_str s2 f2, st_str s3 f3, hM, st_Nc hN, fun w hw => nw_of (List.mem_filter.mp hw).2 (hts w (List.mem_filter.mp hw).1)⟩⟩
theorem st_room {s : State} {pl : Platform} {r r' : Room} (h : s.hasRoom pl r = true) (h1 : r'.frames ≤ r.frames) (h2 : r'.cells ≤ r.cells) (h3 : r'.slots ≤ r.slots) (h4 : r'.locals ≤ r.locals) : s.hasRoom pl r' = true := by
  simp only [State.hasRoom, Bool.and_eq_true, decide_eq_true_eq] at h ⊢
  obtain ⟨⟨⟨⟨a, b1, b2, b3, b4, b5⟩, c⟩, d⟩, e⟩ := h
  exact ⟨⟨⟨⟨by omega, by omega, by omega, by omega, by omega, b5⟩, by omega⟩, by omega⟩, e⟩
