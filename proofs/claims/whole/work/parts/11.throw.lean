/-! ===== throwing ===== -/
theorem Rep.bump {g : Gp} {h : AH} {H H1 : Heap} {n : Nat} (hR : Rep g h H) (hn : H1.size + 4 = gN g + n) (hz : H.size ≤ H1.size) (hold : ∀ q : Nat, q < H.size → H1[q]? = H[q]?) : Rep g (bump h n) H1 := by
  have h1 := hR.1
  have h2 := hR.2.1
  refine ⟨by show 4 ≤ n; omega, hn, fun a ha => ?_, fun a ha => ?_⟩
  · have ha2 : a < 4 ∨ n ≤ a := ha
    exact hR.2.2.1 a (by omega)
  · have hge := hR.ge (a := a) ha
    refine (hR.2.2.2 a ha).kept (hold _ ?_)
    show adr g a < _
    rw [adr_ge hge.1]
    omega
def xNames : List String := ["java/lang/RuntimeException", "java/lang/Exception"]
def ThOk (own : String) (ik ic : Nat) (cls : String) : Prop := Cond.classLink own ik cls ∈ lw_g ∧ Cond.initialized cls ∈ lw_g ∧ (∀ w ∈ (vx_atS own ic cls xNames).filter goodWord, w ∈ lw_tbl) ∧ (∀ w ∈ (vx_atS own ic cls xNames).filter (fun w => !goodWord w), w ∈ lw_tbl) ∧ ((vx_atS own ic cls xNames).filter (fun w => !goodWord w)).all isN = true ∧ (Cond.classLink own ik cls :: Cond.initialized cls :: vx_atS own ic cls xNames).all vx_ot = true ∧ Bundle.fit cls = true
theorem x_throw {g : Gp} {M : MD} {pc ik is ic k : Nat} {text : String} {L st : List AV} {h : AH} {u : Nat × Nat} {Q : PQ} (hH : mH M = []) (hok : ThOk (mO M) ik ic (exN k)) (hstr : ∀ s : State, Old g s → ∃ sa, vk_R (mO M) is text sa s) (hdp : 6 ≤ mDp M) (hst : st.length ≤ 4) (hu1 : u.1 + 1 ≤ mC M) (hu2 : u.2 + 6 ≤ mS M)
    (d0 : decode (mB M) pc = .ok (.new ik, 3)) (d3 : decode (mB M) (pc + 3) = .ok (.dup, 1)) (d4 : decode (mB M) (pc + 4) = .ok (.ldc_w is, 3)) (d7 : decode (mB M) (pc + 7) = .ok (.invokespecial ic, 3)) (d10 : decode (mB M) (pc + 10) = .ok (.athrow, 1))
    (hq : ∀ n, zN h ≤ n → Q (.inr k) (bump h n)) : Ex g M pc L st h u Q := by
  intro p l e s m args below meth cd H locs ls hC hR hS hL hl h1 h2
  obtain ⟨hx, hb, hrt, hml, how, hts, hlk, hnm, hK, hO, hlt, htb⟩ := id hC
  obtain ⟨k1, k2, k3, k4, k5, k6, k7⟩ := hok
  obtain ⟨sa, hsa⟩ := hstr s hO
  have hrm := lr_room (g := g) (m := m) (pc := pc) (ls := ls) (st := (st.map (tv g))) hst
  have hU := hO.2.2.2.2.2.2.2.1
  have hN := hO.2.2.2.2.2.2.2.2.1
  have h7 : 2 * 0 + ((st.map (tv g)).map fun v => v.category).sum ≤ 8 := hrm
  refine vx_throwSW (names := xNames) (sa := sa) hx hb hlt how k7 (by decide +kernel) (hts _ k1) (hts _ k2) hsa ?_ ?_ hU hN hS (by rw [hml, ← hl]; exact hL.1) d0 d3 d4 d7 d10 ?_ ?_ ?_ hu1 hu2 hlk ?_ hS.2.2 hu1 hu2
  · exact vx_hat (B := (vx_atS (mO M) ic (exN k) xNames).filter (fun w => !goodWord w)) (fun w hw => hts _ (lg_mem (k3 w hw) (List.mem_filter.mp hw).2)) (fun w hw => hw) (fun w hw => by
      have hn := List.all_eq_true.mp k5 w hw
      exact nw_use hn (hO.nw w (ln_mem (k4 w hw) hn)))
  · exact fun w hw => List.all_eq_true.mp k6 w hw
  · intro x hx9
    rw [htb, hH] at hx9
    exact absurd hx9 (by simp [tableOf])
  · show 2 + 3 < mDp M; omega
  · show _ + (13 * (2 + 1) + 43) ≤ 64 * mDp M + 100; omega
  · intro t hal hz hold
    have hge := hR.2.1
    have h3 := hR.1
    exact ⟨⟨k, bump h (t.heap.size + 4 - gN g), rfl, hq _ (by omega), hR.bump (by omega) hz hold⟩, (hS.grow hz hold).F rfl⟩
/-! ===== caught: a virtual call in a method with handlers; a handler begins with astore ===== -/
def CatchTo (g : Gp) (M : MD) (pc : Nat) (L : List AV) (u : Nat × Nat) (Q : PQ) (k : Nat) (h' : AH) : Prop :=
  ∃ (pre : List ExceptionTableEntry) (x : ExceptionTableEntry) (suf : List ExceptionTableEntry) (i n : Nat), tableOf (mH M) = pre ++ x :: suf ∧ (∀ z ∈ pre, z.catchType ≠ 0 ∧ ∃ j, 1 ≤ j ∧ j ≤ 3 ∧ j ≠ k ∧ Cond.classLink (mO M) z.catchType (exN j) ∈ lw_g) ∧ covers x pc = true ∧ x.catchType ≠ 0 ∧ 1 ≤ k ∧ k ≤ 3 ∧ Cond.classLink (mO M) x.catchType (exN k) ∈ lw_g ∧ Cond.castable (exN k) (exN k) ∈ lw_n ∧
    ((decode (mB M) x.handlerPc = .ok (.astore i, 2) ∧ n = 2) ∨ (∃ i4 : Fin 4, (i4 : Nat) = i ∧ decode (mB M) x.handlerPc = .ok (.astore_n i4, 1) ∧ n = 1)) ∧ i < L.length ∧ Ex g M (x.handlerPc + n) (st1 L i vU) [] h' u Q
theorem LR.set1U {g : Gp} {L : List AV} {ls' : Array Slot} {i : Nat} {n : Nat} {x : Value} (hn : n = L.length) (hi : i < L.length) (h : lv_has ls' n ((i, x) :: (lvp g L).filter (fun q => !(q.1 == i) && !(q.1 + 1 == i && q.2.category == 2)))) : LR g (st1 L i vU) ls' := by
  refine LR.of h (by rw [st1_len]; exact hn) (fun j hj => ?_)
  rw [st1_lg g _ _ _ _ hi] at hj ⊢
  by_cases h1 : j = i
  · subst h1
    simp at hj
  · rw [if_neg h1] at hj ⊢
    by_cases h2 : j + 1 = i ∧ (tv g (lg L j)).category = 2
    · rw [if_pos h2] at hj; exact absurd rfl hj
    · rw [if_neg h2] at hj ⊢
      refine List.mem_cons_of_mem _ (List.mem_filter.mpr ⟨lvp_mem.mpr ⟨lg_lt hj, hj, rfl⟩, ?_⟩)
      simp [h1]
      omega
theorem Ex.callVX {g : Gp} {M N : MD} {pc i x ci : Nat} {r : vw_C} {L rest av : List AV} {h : AH} {u : Nat × Nat} {Q Q' : PQ} (hN : MOk N av.length) (hcode : mH N = []) (hl : Cond.methodLink (mO M) i (mY N) ∈ lw_g) (hin : Cond.instanceMethod (mY N) ∈ lw_g) (hse : Cond.selects r.1 (mY N) (mY N) ∈ lw_g) (hc : clt[ci]? = some r) (hx0 : zK h x = (1, ci)) (hdp : mDp N + 1 ≤ mDp M) (h1 : u.1 + mC N ≤ mC M) (h2 : u.2 + mS N ≤ mS M) (hrest : rest.length ≤ 4) (hd : decode (mB M) pc = .ok (.invokevirtual i, 3))
    (ev : Ev g N (vR x :: av) h Q') (hk : ∀ v h', Q' (.inl v) h' → Ex g M (pc + 3) L (v.toList ++ rest) h' (u.1 + mC N, u.2 + mS N) Q) (hx : ∀ k h', Q' (.inr k) h' → CatchTo g M pc L (u.1 + mC N, u.2 + mS N) Q k h') : Ex g M pc L (av.reverse ++ vR x :: rest) h u Q := by
  intro p l e s m args below meth c H locs ls hC hR hS hL hl0 g1 g2
  obtain ⟨hX, hb, hrt, hml, how, hts, hlk, hnm, hK, hO, hlt, htb⟩ := id hC
  have hx3 : x ≠ 0 := fun h0 => by have := hR.2.2.1 x (Or.inl (by omega)); rw [hx0] at this; exact Nat.one_ne_zero this
  have hv : tv g (vR x) = .ref (adr g x) := by simp [tv, rv, hx3]
  refine Ex.fin (a := (Value.ref (adr g x) :: av.map (tv g)).toArray) (XK := CatchTo g M pc L (u.1 + mC N, u.2 + mS N) Q) hC hS hL hl0 h1 h2 ?_ hk hx ?_
  · refine vx_runV (b := adr g x) (C := r.1) (As := av.map (tv g)) (rest := rest.map (tv g)) ⟨hX, hb, hml, how, hts⟩ (ev l hlt) ⟨callB_M hC hN hcode hl hdp, hts _ hin, hts _ hse⟩ ⟨Pc.blind, rep_recv hR hK hx0 hc, fun U hU hW => ?_⟩ rfl (by simp) (by rw [← hl0]; exact hL.1) (by simp [hv]) (lr_room hrest) hd ⟨h1, h2⟩
    have := Pc.at (av := vR x :: av) hR hK hO hS U hU hW
    rw [List.map_cons, hv] at this
    exact this
  · intro k h' H1 locs1 q ce ⟨pre, xe, suf, i9, n9, z1, z2, z3, z4, z5, z6, z7, z8, z9, z10, z11⟩ y1 y2 y3 y4 y5
    refine vx_catch (own := mO M) (name := exN k) (E := exN k) (ce := ce) how pre xe suf (htb.trans z1) (fun z hz => Or.inr ⟨(z2 z hz).1, ?_⟩) z3 z4 (hts _ z7) (nw_use rfl (hO.nw _ z8)) y3 y4 y5 ?_
    · obtain ⟨-, j, j1, j2, j3, j4⟩ := z2 z hz
      exact ⟨exN j, hts _ j4, hO.2.2.2.2.2.2.2.2.2.2.2.2.2.1 k j z5 z6 j1 j2 (Ne.symm j3)⟩
    · rcases z9 with ⟨d9, rfl⟩ | ⟨i4, e4, d9, rfl⟩
      · exact lv_astore hX hb d9 hL.has z10 rfl (fun ls2 hl2 => z11 p l e s m args below meth c H1 locs1 ls2 hC y1 y2 (LR.set1U rfl z10 hl2) ((st1_len L _ _).trans hl0) h1 h2)
      · exact lv_astore_n hX hb d9 e4 hL.has z10 rfl (fun ls2 hl2 => z11 p l e s m args below meth c H1 locs1 ls2 hC y1 y2 (LR.set1U rfl z10 hl2) ((st1_len L _ _).trans hl0) h1 h2)
