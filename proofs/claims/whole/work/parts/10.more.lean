/-! ===== int[n][k] ===== -/
theorem x_mna {g : Gp} {M : MD} {pc i N K : Nat} {n k : Int32} {L st : List AV} {h : AH} {u : Nat × Nat} {Q : PQ} (hl9 : Cond.classLink (mO M) i "[[I" ∈ lw_g) (hw : Cond.arrayOver (.array .int) ∈ lw_n) (hw2 : Cond.arrayClass .int ∈ lw_g) (hn : ¬ n < 0) (hk : ¬ k < 0) (hN : n.toNatClampNeg = N) (hK9 : k.toNatClampNeg = K) (hN2 : N ≤ 60000000) (hK2 : K ≤ 60000000) (hu1 : u.1 + 1 + N ≤ mC M) (hu2 : u.2 + N + N * K ≤ mS M) (hd : decode (mB M) pc = .ok (.multianewarray i 2, 4)) (kk : Ex g M (pc + 4) L (vR (zN h) :: st) (nwm h N K) (u.1 + 1 + N, u.2 + N + N * K) Q) : Ex g M pc L (vI k :: vI n :: st) h u Q := by
  intro p l e s m args below meth cd H locs ls hC hR hS hL hl h1 h2
  obtain ⟨hx, hb, hrt, hml, how, hts, hlk, hnm, hK, hO, -⟩ := id hC
  subst hN
  subst hK9
  intro T hT X
  obtain ⟨vm₁, cA, comp, -, fA, fC, hO, -, X', step⟩ := X.multianewarray2F hx how (ty := .int) (hts _ hl9) (nw_use rfl (hO.nw _ hw)) (hts _ hw2) (g := F0 m pc ls ((vI k :: vI n :: st).map (tv g))) rfl (by rw [hb]; exact hd) (rest := st.map (tv g)) rfl hn hk (by omega) (by show _ * 4 ≤ _; omega) (by omega) rfl rfl (by show u.1 + (1 + _) ≤ mC M; omega) (by show u.2 + (_ + _) ≤ mS M; omega)
  have ec : comp = gA g 2 := Option.some.inj (fC.symm.trans (hK.2 0 _ rfl).2)
  have ea : cA = gA g 8 := Option.some.inj (fA.symm.trans (hK.2 6 _ rfl).2)
  subst ec
  subst ea
  generalize hF : Jvm.Free.Multi.fill (T.setVm vm₁) (gA g 8) (gA g 2) n.toNatClampNeg k.toNatClampNeg (defaultValue .int) n.toNatClampNeg = F at X' step
  have hTh : (T.setVm vm₁).heap = H := hT
  obtain ⟨f1, f2, -, -⟩ := Jvm.Free.Multi.fill_facts (T.setVm vm₁) (gA g 8) (gA g 2) n.toNatClampNeg k.toNatClampNeg (defaultValue .int) n.toNatClampNeg
  rw [hF, hTh] at f1 f2
  have hold : ∀ x : Nat, x < H.size → F.heap[x]? = H[x]? := fun x hx => by
    have := Jvm.Free.Multi.fill_old (T.setVm vm₁) (gA g 8) (gA g 2) n.toNatClampNeg k.toNatClampNeg (defaultValue .int) (a := x) (by rw [hTh]; exact hx) n.toNatClampNeg
    rw [hF, hTh] at this
    exact this
  have hrow : ∀ j : Nat, j < n.toNatClampNeg → F.heap[H.size + 1 + j]? = some (vp_cell (gA g 2) (k.toNatClampNeg, .inl (fun _ => 0))) := fun j hj => by
    have := Jvm.Free.Multi.fill_inner (T.setVm vm₁) (gA g 8) (gA g 2) n.toNatClampNeg k.toNatClampNeg (defaultValue .int) n.toNatClampNeg j hj
    rw [hF, hTh] at this
    rw [this]
    show some ({ cls := gA g 2, slots := Array.replicate k.toNatClampNeg (.int 0), vm := .none } : Cell) = _
    rw [arrV_new]
    rfl
  have h3 := hR.1
  have hs := hR.2.1
  have htop : adr g h.1 = H.size := hR.top
  have hzn : h.1 = zN h := rfl
  have hn9 : zN (nwm h n.toNatClampNeg k.toNatClampNeg) = zN h + 1 + n.toNatClampNeg := rfl
  have kout : zK (nwm h n.toNatClampNeg k.toNatClampNeg) h.1 = (8, n.toNatClampNeg) := if_pos rfl
  have kin : ∀ b, h.1 < b → b < h.1 + 1 + n.toNatClampNeg → zK (nwm h n.toNatClampNeg k.toNatClampNeg) b = (2, k.toNatClampNeg) := fun b q1 q2 => by
    show (if b = h.1 then _ else if _ then _ else _) = _
    rw [if_neg (by omega), if_pos ⟨q1, q2⟩]
  have kold : ∀ b, b < h.1 ∨ h.1 + 1 + n.toNatClampNeg ≤ b → zK (nwm h n.toNatClampNeg k.toNatClampNeg) b = zK h b := fun b q1 => by
    show (if b = h.1 then _ else if _ then _ else _) = _
    rw [if_neg (by omega), if_neg (by omega)]
    rfl
  have hR2 : Rep g (nwm h n.toNatClampNeg k.toNatClampNeg) F.heap := by
    refine ⟨by rw [hn9]; omega, by rw [hn9, f1]; omega, fun b hb => ?_, fun b hb => ?_⟩
    · rw [hn9] at hb
      rw [kold b (by omega)]
      exact hR.2.2.1 b (by omega)
    · by_cases e1 : b = h.1
      · subst e1
        rw [htop]
        unfold ent
        rw [kout]
        show F.heap[H.size]? = some (vp_cell (gA g 8) (n.toNatClampNeg, .inr (.inr (.inr (.inr (fun j => ro g (zR (nwm h n.toNatClampNeg k.toNatClampNeg) h.1 j)))))))
        have := vr_outer (gA g 8) n.toNatClampNeg H.size n.toNatClampNeg
        rw [f2, this, vp_cell_q]
        refine congrArg some (congrArg (arrV (gA g 8) n.toNatClampNeg) (funext fun j => ?_))
        have e3 : zR (nwm h n.toNatClampNeg k.toNatClampNeg) h.1 j = if j < n.toNatClampNeg then h.1 + 1 + j else 0 := by
          show (if h.1 = h.1 then (fun j => if j < _ then _ else _) else _) j = _
          rw [if_pos rfl]
        rw [e3]
        split
        · unfold ro
          rw [if_neg (by omega), adr_ge (by omega)]
          have : gN g + (h.1 + 1 + j - 4) = H.size + 1 + j := by omega
          rw [this]
        · rfl
      · by_cases e2 : h.1 < b ∧ b < h.1 + 1 + n.toNatClampNeg
        · have e4 : adr g b = H.size + 1 + (b - h.1 - 1) := by rw [adr_ge (by omega)]; omega
          have e5 : zI (nwm h n.toNatClampNeg k.toNatClampNeg) b = fun _ => 0 := if_pos (by omega)
          rw [e4]
          unfold ent
          rw [kin b e2.1 e2.2]
          simp only [entk, e5]
          exact hrow _ (by omega)
        · rw [kold b (by omega)] at hb
          have hge := hR.ge hb
          have q1 : ¬ h.1 ≤ b := by omega
          have e6 : ent g (nwm h n.toNatClampNeg k.toNatClampNeg) b = ent g h b := by
            refine ent_congr (kold b (by omega)) (if_neg q1) (if_neg q1) (if_neg q1) ?_
            show (if b = h.1 then _ else if _ then _ else _) = _
            rw [if_neg e1, if_neg q1]
            rfl
          rw [e6]
          refine (hR.2.2.2 b hb).kept (hold _ ?_)
          show adr g b < _
          rw [adr_ge hge.1]
          omega
  obtain ⟨t, a1, b1⟩ := kk p l e s m args below meth cd F.heap locs ls hC hR2 (hS.grow (by rw [f1]; omega) hold) hL hl hu1 hu2 F rfl X'
  refine ⟨t, step t ?_, b1⟩
  have h0 : zN h ≠ 0 := by omega
  have e : T.heap.size = H.size := by rw [hT]
  rw [List.map_cons, tv_ref h0, hR.top] at a1
  rw [e]
  exact a1
/-! ===== System.arraycopy: references, longs ===== -/
def rwI (h : AH) (a : Nat) (f : Nat → Int32) : AH := (h.1, h.2.1, up1 h.2.2.1 a f, h.2.2.2)
def rwL (h : AH) (a : Nat) (f : Nat → Int64) : AH := (h.1, h.2.1, h.2.2.1, up1 h.2.2.2.1 a f, h.2.2.2.2)
def rwR (h : AH) (a : Nat) (f : Nat → Nat) : AH := (h.1, h.2.1, h.2.2.1, h.2.2.2.1, h.2.2.2.2.1, up1 h.2.2.2.2.2 a f)
theorem cpy_ro {g : Gp} {f f2 : Nat → Nat} {sp dp n : Nat} : va_cpy (fun j => ro g (f j)) (fun j => ro g (f2 j)) sp dp n = fun j => ro g (va_cpy f f2 sp dp n j) := by
  funext k
  unfold va_cpy
  split <;> rfl
def acOk (M : MD) (i : Nat) : Prop := Cond.methodLink (mO M) i arraycopyName ∈ lw_g ∧ Cond.native arraycopyName ∈ lw_g ∧ Cond.static arraycopyName ∈ lw_g ∧ Cond.initialized "java/lang/System" ∈ lw_g
theorem nn32 : ∀ z : Int32, ¬ z < 0 → z.toInt = (z.toNatClampNeg : Int) := by
  intro z hz
  have hz0 : (0 : Int) ≤ z.toInt := by
    have := Int32.not_lt.mp hz
    simpa using Int32.le_iff_toInt_le.mp this
  show z.toInt = ((z.toInt.toNat : Nat) : Int)
  omega
theorem x_copyq {g : Gp} {M : MD} {pc i a0 a n0 n1 ci : Nat} {r : vw_C} {sp dp n : Int32} {L st : List AV} {h : AH} {u : Nat × Nat} {Q : PQ} (hw : acOk M i) (ha0 : zK h a0 = (6, n0)) (ha1 : zK h a = (6, n1)) (hc9 : clt[ci]? = some r) (hcast : Cond.castable r.1 "java/lang/Object" ∈ lw_n) (h1 : ¬ sp < 0) (h2 : ¬ dp < 0) (h3 : ¬ n < 0) (h4 : sp.toNatClampNeg + n.toNatClampNeg ≤ n0) (h5 : dp.toNatClampNeg + n.toNatClampNeg ≤ n1)
    (hel : ∀ j : Nat, j < n.toNatClampNeg → zR h a0 (sp.toNatClampNeg + j) ≠ 0 → zK h (zR h a0 (sp.toNatClampNeg + j)) = (1, ci)) (hdp : 1 ≤ mDp M) (hst : st.length ≤ 4) (hd : decode (mB M) pc = .ok (.invokestatic i, 3))
    (kk : Ex g M (pc + 3) L st (rwR h a (va_cpy (zR h a0) (zR h a) sp.toNatClampNeg dp.toNatClampNeg n.toNatClampNeg)) u Q) : Ex g M pc L (vI n :: vI dp :: vR a :: vI sp :: vR a0 :: st) h u Q := by
  intro p l e s m args below meth cd H locs ls hC hR hS hL hl g1 g2
  obtain ⟨hx, hb, hrt, hml, how, hts, hlk, hnm, hK, hO, -⟩ := id hC
  intro T hT X
  have q0 : (6 : Nat) ≠ 0 := by decide
  have hc0 : H[adr g a0]? = some (vp_cell (gA g 6) (n0, .inr (.inr (.inr (.inr (fun j => ro g (zR h a0 j))))))) := hR.at1 ha0 q0
  have hc1 : H[adr g a]? = some (vp_cell (gA g 6) (n1, .inr (.inr (.inr (.inr (fun j => ro g (zR h a j))))))) := hR.at1 ha1 q0
  obtain ⟨-, k0, hk0, cm0, hkk0⟩ := (hK.2 4 _ rfl).1 n0 (fun j => va_rf (ro g (zR h a0 j)))
  obtain ⟨-, k1, hk1, cm1, hkk1⟩ := (hK.2 4 _ rfl).1 n1 (fun j => va_rf (ro g (zR h a j)))
  have hrm := lr_room (g := g) (m := m) (pc := pc) (ls := ls) (st := (st.map (tv g))) hst
  obtain ⟨vm', X', step⟩ := X.arraycopy hx how (hts _ hw.1) (hts _ hw.2.1) (hts _ hw.2.2.1) (hts _ hw.2.2.2) (src := adr g a0) (dst := adr g a) (cs := vp_cell (gA g 6) (n0, .inr (.inr (.inr (.inr (fun j => ro g (zR h a0 j))))))) (cd := vp_cell (gA g 6) (n1, .inr (.inr (.inr (.inr (fun j => ro g (zR h a j))))))) (srcPos := sp) (destPos := dp) (n := n) (by rw [hT]; exact hc0) (by rw [hT]; exact hc1)
    (fun _ h => by cases h) (fun _ h => by cases h) (fun h => by cases h) (fun h => by cases h) hk0 hk1 hkk0 hkk1 rfl h1 h2 h3
    (by rw [nn32 sp h1, nn32 n h3]; show ¬ _ > ((arrV (gA g 6) n0 (fun j => va_rf (ro g (zR h a0 j)))).slots.size : Int); rw [arrV_size]; omega)
    (by rw [nn32 dp h2, nn32 n h3]; show ¬ _ > ((arrV (gA g 6) n1 (fun j => va_rf (ro g (zR h a j)))).slots.size : Int); rw [arrV_size]; omega)
    (fun vm₁ hal j hj => by
      have e : (vp_cell (gA g 6) (n0, .inr (.inr (.inr (.inr (fun j => ro g (zR h a0 j))))))).slots.getD (sp.toNatClampNeg + j) .null = va_rf (ro g (zR h a0 (sp.toNatClampNeg + j))) := by
        show (arrV (gA g 6) n0 (fun j => va_rf (ro g (zR h a0 j)))).slots.getD _ _ = _
        rw [Array.getD_eq_getD_getElem?, arrV_read _ _ (by omega)]
        rfl
      rw [e]
      by_cases hz : zR h a0 (sp.toNatClampNeg + j) = 0
      · rw [hz]
        exact ⟨rfl, trivial⟩
      · have e2 : ro g (zR h a0 (sp.toNatClampNeg + j)) = some (adr g (zR h a0 (sp.toNatClampNeg + j))) := if_neg hz
        rw [e2]
        obtain ⟨cellV, g1, g2, g3⟩ := rep_recv hR hK (hel j hj hz) hc9
        obtain ⟨kA, comp, r1, r2, r3, -⟩ := (hK.2 4 _ rfl).2
        cases hk1.symm.trans r1
        cases hkk1.symm.trans r2
        obtain ⟨kC, hkC, -⟩ := Vm.findClass_spec g3
        obtain ⟨kE, hkE, -⟩ := Vm.findClass_spec r3
        obtain ⟨kC', hkC', -⟩ := hal.2.2 _ _ hkC
        obtain ⟨kE', hkE', -⟩ := hal.2.2 _ _ hkE
        refine ⟨rfl, cellV, (show T.heap[_]? = some cellV by rw [hT]; exact g1), (fun q h => by rw [h] at g2; cases g2), ⟨kC', hkC'⟩, ?_, ?_⟩
        · exact ⟨kE', hkE'⟩
        · show vm₁.assignable _ _ = true
          rw [hal.assignable]
          exact vb_asgC (hO.nw _ hcast) _ _ r3 g3)
    (g := F0 m pc ls ((vI n :: vI dp :: vR a :: vI sp :: vR a0 :: st).map (tv g))) rfl (by rw [hml, ← hl]; exact hL.1) (rest := st.map (tv g)) (by rw [List.map_cons, List.map_cons, List.map_cons, List.map_cons, List.map_cons, tv_ref (hR.ne0 ha0 q0), tv_ref (hR.ne0 ha1 q0)]; rfl) (by rw [hb]; exact hd) hdp (by
      show 2 * 0 + _ + _ ≤ 64 * mDp M + 100
      have e8 : nativeFrameWords "java/lang/System" "arraycopy" 5 = 7 := by decide
      have : 2 * 0 + ((st.map (tv g)).map fun v => v.category).sum ≤ 8 := hrm
      rw [e8]
      omega)
  have e1 : copied (vp_cell (gA g 6) (n0, .inr (.inr (.inr (.inr (fun j => ro g (zR h a0 j))))))) (vp_cell (gA g 6) (n1, .inr (.inr (.inr (.inr (fun j => ro g (zR h a j))))))) sp dp n = vp_cell (gA g 6) (n1, .inr (.inr (.inr (.inr (fun j => ro g (va_cpy (zR h a0) (zR h a) sp.toNatClampNeg dp.toNatClampNeg n.toNatClampNeg j)))))) := by
    rw [← cpy_ro, vp_cell_q, vp_cell_q, vp_cell_q]
    exact va_copied (fun z => va_rf z) (gA g 6) (gA g 6) _ _ h4
  rw [e1] at X' step
  have hl9 : adr g a < H.size := (Array.getElem?_eq_some_iff.mp hc1).1
  generalize hcell : vp_cell (gA g 6) (n1, .inr (.inr (.inr (.inr (fun j => ro g (va_cpy (zR h a0) (zR h a) sp.toNatClampNeg dp.toNatClampNeg n.toNatClampNeg j)))))) = nc at X' step
  have hheap : ((T.setVm vm').setCell (adr g a) nc).heap = H.setIfInBounds (adr g a) nc := by rw [← hT]; rfl
  have oq : ∀ q : Nat, q ≠ adr g a → (H.setIfInBounds (adr g a) nc)[q]? = H[q]? := fun q hq => by simp [Array.getElem?_setIfInBounds, Ne.symm hq]
  have hR2 : Rep g (rwR h a (va_cpy (zR h a0) (zR h a) sp.toNatClampNeg dp.toNatClampNeg n.toNatClampNeg)) (H.setIfInBounds (adr g a) nc) := by
    refine arr_put hR ha1 q0 rfl (fun _ => rfl) (fun b hb => ent_congr rfl rfl rfl rfl (up1_n _ _ hb)) ?_ (by simp) oq
    have e3 : zR (rwR h a (va_cpy (zR h a0) (zR h a) sp.toNatClampNeg dp.toNatClampNeg n.toNatClampNeg)) a = va_cpy (zR h a0) (zR h a) sp.toNatClampNeg dp.toNatClampNeg n.toNatClampNeg := up1_s _ _ _
    rw [entq (Or.inl rfl), e3]
    show (H.setIfInBounds (adr g a) nc)[adr g a]? = some (vp_cell _ _)
    rw [← hcell]
    simp [Array.getElem?_setIfInBounds, hl9]
  obtain ⟨t, a1, b1⟩ := kk p l e s m args below meth cd _ _ ls hC hR2 ⟨by simp; exact hS.1, fun q w1 w2 => by
      rw [oq q (fun e => w2 (by rw [e]; exact hR.adr_in ha1 q0))]
      exact hS.2.1 q w1 w2, fun q hq => by
      rcases List.mem_append.mp hq with h | h
      · exact hS.2.2 q h
      · obtain ⟨z, -, hz⟩ := List.mem_map.mp h
        rw [← hz]
        exact hR.adr_in ha1 q0⟩ hL hl g1 g2 _ hheap X'
  exact ⟨t, step t a1, b1⟩
theorem x_copyl {g : Gp} {M : MD} {pc i a0 a n0 n1 : Nat} {sp dp n : Int32} {L st : List AV} {h : AH} {u : Nat × Nat} {Q : PQ} (hw : acOk M i) (ha0 : zK h a0 = (3, n0)) (ha1 : zK h a = (3, n1)) (h1 : ¬ sp < 0) (h2 : ¬ dp < 0) (h3 : ¬ n < 0) (h4 : sp.toNatClampNeg + n.toNatClampNeg ≤ n0) (h5 : dp.toNatClampNeg + n.toNatClampNeg ≤ n1) (hdp : 1 ≤ mDp M) (hst : st.length ≤ 4) (hd : decode (mB M) pc = .ok (.invokestatic i, 3))
    (kk : Ex g M (pc + 3) L st (rwL h a (va_cpy (zL h a0) (zL h a) sp.toNatClampNeg dp.toNatClampNeg n.toNatClampNeg)) u Q) : Ex g M pc L (vI n :: vI dp :: vR a :: vI sp :: vR a0 :: st) h u Q := by
  intro p l e s m args below meth cd H locs ls hC hR hS hL hl g1 g2
  obtain ⟨hx, hb, hrt, hml, how, hts, hlk, hnm, hK, -⟩ := id hC
  intro T hT X
  have q0 : (3 : Nat) ≠ 0 := by decide
  have hc0 : H[adr g a0]? = some (vp_cell (gA g 3) (n0, .inr (.inl (zL h a0)))) := hR.at1 ha0 q0
  have hc1 : H[adr g a]? = some (vp_cell (gA g 3) (n1, .inr (.inl (zL h a)))) := hR.at1 ha1 q0
  obtain ⟨-, k0, hk0, cm0, hkk0⟩ := (hK.2 1 _ rfl).1 n0 (fun j => .long (zL h a0 j))
  obtain ⟨-, k1, hk1, cm1, hkk1⟩ := (hK.2 1 _ rfl).1 n1 (fun j => .long (zL h a j))
  have hrm := lr_room (g := g) (m := m) (pc := pc) (ls := ls) (st := (st.map (tv g))) hst
  obtain ⟨vm', X', step⟩ := X.arraycopy hx how (hts _ hw.1) (hts _ hw.2.1) (hts _ hw.2.2.1) (hts _ hw.2.2.2) (src := adr g a0) (dst := adr g a) (cs := vp_cell (gA g 3) (n0, .inr (.inl (zL h a0)))) (cd := vp_cell (gA g 3) (n1, .inr (.inl (zL h a)))) (srcPos := sp) (destPos := dp) (n := n) (by rw [hT]; exact hc0) (by rw [hT]; exact hc1)
    (fun _ h => by cases h) (fun _ h => by cases h) (fun h => by cases h) (fun h => by cases h) hk0 hk1 hkk0 hkk1 rfl h1 h2 h3
    (by rw [nn32 sp h1, nn32 n h3]; show ¬ _ > ((arrV (gA g 3) n0 (fun j => .long (zL h a0 j))).slots.size : Int); rw [arrV_size]; omega)
    (by rw [nn32 dp h2, nn32 n h3]; show ¬ _ > ((arrV (gA g 3) n1 (fun j => .long (zL h a j))).slots.size : Int); rw [arrV_size]; omega)
    (fun vm₁ hal j hj => by
      have e : (vp_cell (gA g 3) (n0, .inr (.inl (zL h a0)))).slots.getD (sp.toNatClampNeg + j) .null = .long (zL h a0 (sp.toNatClampNeg + j)) := by
        show (arrV (gA g 3) n0 (fun j => .long (zL h a0 j))).slots.getD _ _ = _
        rw [Array.getD_eq_getD_getElem?, arrV_read _ _ (by omega)]
        rfl
      refine ⟨?_, ?_⟩
      · rw [e]; rfl
      · rw [e]; exact trivial)
    (g := F0 m pc ls ((vI n :: vI dp :: vR a :: vI sp :: vR a0 :: st).map (tv g))) rfl (by rw [hml, ← hl]; exact hL.1) (rest := st.map (tv g)) (by rw [List.map_cons, List.map_cons, List.map_cons, List.map_cons, List.map_cons, tv_ref (hR.ne0 ha0 q0), tv_ref (hR.ne0 ha1 q0)]; rfl) (by rw [hb]; exact hd) hdp (by
      show 2 * 0 + _ + _ ≤ 64 * mDp M + 100
      have e8 : nativeFrameWords "java/lang/System" "arraycopy" 5 = 7 := by decide
      have : 2 * 0 + ((st.map (tv g)).map fun v => v.category).sum ≤ 8 := hrm
      rw [e8]
      omega)
  have e1 : copied (vp_cell (gA g 3) (n0, .inr (.inl (zL h a0)))) (vp_cell (gA g 3) (n1, .inr (.inl (zL h a)))) sp dp n = vp_cell (gA g 3) (n1, .inr (.inl (va_cpy (zL h a0) (zL h a) sp.toNatClampNeg dp.toNatClampNeg n.toNatClampNeg))) := va_copied (fun z => .long z) (gA g 3) (gA g 3) _ _ h4
  rw [e1] at X' step
  have hl9 : adr g a < H.size := (Array.getElem?_eq_some_iff.mp hc1).1
  generalize hcell : vp_cell (gA g 3) (n1, .inr (.inl (va_cpy (zL h a0) (zL h a) sp.toNatClampNeg dp.toNatClampNeg n.toNatClampNeg))) = nc at X' step
  have hheap : ((T.setVm vm').setCell (adr g a) nc).heap = H.setIfInBounds (adr g a) nc := by rw [← hT]; rfl
  have oq : ∀ q : Nat, q ≠ adr g a → (H.setIfInBounds (adr g a) nc)[q]? = H[q]? := fun q hq => by simp [Array.getElem?_setIfInBounds, Ne.symm hq]
  have hR2 : Rep g (rwL h a (va_cpy (zL h a0) (zL h a) sp.toNatClampNeg dp.toNatClampNeg n.toNatClampNeg)) (H.setIfInBounds (adr g a) nc) := by
    refine arr_put hR ha1 q0 rfl (fun _ => rfl) (fun b hb => ent_congr rfl rfl (up1_n _ _ hb) rfl rfl) ?_ (by simp) oq
    have e3 : zL (rwL h a (va_cpy (zL h a0) (zL h a) sp.toNatClampNeg dp.toNatClampNeg n.toNatClampNeg)) a = va_cpy (zL h a0) (zL h a) sp.toNatClampNeg dp.toNatClampNeg n.toNatClampNeg := up1_s _ _ _
    simp only [entk, e3]
    show (H.setIfInBounds (adr g a) nc)[adr g a]? = some (vp_cell _ _)
    rw [← hcell]
    simp [Array.getElem?_setIfInBounds, hl9]
  obtain ⟨t, a1, b1⟩ := kk p l e s m args below meth cd _ _ ls hC hR2 ⟨by simp; exact hS.1, fun q w1 w2 => by
      rw [oq q (fun e => w2 (by rw [e]; exact hR.adr_in ha1 q0))]
      exact hS.2.1 q w1 w2, fun q hq => by
      rcases List.mem_append.mp hq with h | h
      · exact hS.2.2 q h
      · obtain ⟨z, -, hz⟩ := List.mem_map.mp h
        rw [← hz]
        exact hR.adr_in ha1 q0⟩ hL hl g1 g2 _ hheap X'
  exact ⟨t, step t a1, b1⟩
