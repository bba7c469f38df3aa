theorem arr_put {g : Gp} {h h' : AH} {H H1 : Heap} {a t n : Nat} (hR : Rep g h H) (ha : zK h a = (t, n)) (t0 : t ≠ 0) (hn : zN h' = zN h) (hk : ∀ b, zK h' b = zK h b) (ho : ∀ b, b ≠ a → ent g h' b = ent g h b) (hat : va_at (gD g) clt (adr g a, entk g h' a t n) H1) (e2 : H1.size = H.size) (e3 : ∀ q : Nat, q ≠ adr g a → H1[q]? = H[q]?) : Rep g h' H1 := by
  refine hR.put hn hk ho (by rw [ha]; exact t0) ?_ e2 e3
  unfold ent
  rw [hk, ha]
  exact hat
theorem x_iastore {g : Gp} {M : MD} {pc : Nat} {L st : List AV} {h : AH} {u : Nat × Nat} {Q : PQ} {a n : Nat} {i x : Int32} (ha : zK h a = (2, n)) (hi : vp_in i n) (hd : decode (mB M) pc = .ok (.iastore, 1)) (kk : Ex g M (pc + 1) L st (sI h a i.toNatClampNeg x) u Q) : Ex g M pc L (vI x :: vI i :: vR a :: st) h u Q := by
  intro p l e s m args below meth cd H locs ls hC hR hS hL hl h1 h2
  obtain ⟨hx, hb, hrt, hml, how, hts, hlk, hnm, hK, -⟩ := id hC
  have hat := hR.at1 ha (by decide : (2 : Nat) ≠ 0)
  rw [List.map_cons, List.map_cons, List.map_cons, tv_ref (hR.ne0 ha (by decide))]
  refine W.iast hx hb hat ((hK.2 0 _ rfl).1 n (fun j => .int (zI h a j))) (fun q => by cases q) (by show ¬ (i < 0 ∨ (arrV _ _ _).slots.size ≤ _); rw [arrV_size]; exact hi) rfl rfl hd fun H1 e9 z oq => ?_
  refine kk p l e s m args below meth cd H1 _ ls hC (arr_put hR ha (by decide) rfl (fun _ => rfl) (sfv_o g h a i.toNatClampNeg (vI x)) ?_ z oq) (hS.put z oq (hR.adr_in ha (by decide))) hL hl h1 h2
  show H1[adr g a]? = some (vp_cell _ _)
  rw [e9, vp_cell_i]
  show some ((vp_cell (gA g 2) (n, .inl (zI h a))).setSlot _ _) = _
  rw [vp_cell_i, arrV_store]
  refine congrArg (fun f : Nat → Value => some (arrV (gA g 2) n f)) (?_ : _ = fun j => Value.int (zI (sI h a i.toNatClampNeg x) a j))
  funext q
  by_cases hq : q = i.toNatClampNeg <;> simp [updV, zI, sI, up2, up1, hq]
theorem x_lastore {g : Gp} {M : MD} {pc : Nat} {L st : List AV} {h : AH} {u : Nat × Nat} {Q : PQ} {a n : Nat} {i : Int32} {x : Int64} (ha : zK h a = (3, n)) (hi : vp_in i n) (hd : decode (mB M) pc = .ok (.lastore, 1)) (kk : Ex g M (pc + 1) L st (sL h a i.toNatClampNeg x) u Q) : Ex g M pc L (vL x :: vI i :: vR a :: st) h u Q := by
  intro p l e s m args below meth cd H locs ls hC hR hS hL hl h1 h2
  obtain ⟨hx, hb, hrt, hml, how, hts, hlk, hnm, hK, -⟩ := id hC
  have hat := hR.at1 ha (by decide : (3 : Nat) ≠ 0)
  rw [List.map_cons, List.map_cons, List.map_cons, tv_ref (hR.ne0 ha (by decide))]
  refine W.last hx hb hat ((hK.2 1 _ rfl).1 n (fun j => .long (zL h a j))) (fun q => by cases q) (by show ¬ (i < 0 ∨ (arrV _ _ _).slots.size ≤ _); rw [arrV_size]; exact hi) rfl rfl hd fun H1 e9 z oq => ?_
  refine kk p l e s m args below meth cd H1 _ ls hC (arr_put hR ha (by decide) rfl (fun _ => rfl) (sfv_o g h a i.toNatClampNeg (vL x)) ?_ z oq) (hS.put z oq (hR.adr_in ha (by decide))) hL hl h1 h2
  show H1[adr g a]? = some (vp_cell _ _)
  rw [e9, vp_cell_l]
  show some ((vp_cell (gA g 3) (n, .inr (.inl (zL h a)))).setSlot _ _) = _
  rw [vp_cell_l, arrV_store]
  refine congrArg (fun f : Nat → Value => some (arrV (gA g 3) n f)) (?_ : _ = fun j => Value.long (zL (sL h a i.toNatClampNeg x) a j))
  funext q
  by_cases hq : q = i.toNatClampNeg <;> simp [updV, zL, sL, up2, up1, hq]
theorem x_dastore {g : Gp} {M : MD} {pc : Nat} {L st : List AV} {h : AH} {u : Nat × Nat} {Q : PQ} {a n : Nat} {i : Int32} {x : UInt64} (ha : zK h a = (5, n)) (hi : vp_in i n) (hd : decode (mB M) pc = .ok (.dastore, 1)) (kk : Ex g M (pc + 1) L st (sD h a i.toNatClampNeg x) u Q) : Ex g M pc L (vD x :: vI i :: vR a :: st) h u Q := by
  intro p l e s m args below meth cd H locs ls hC hR hS hL hl h1 h2
  obtain ⟨hx, hb, hrt, hml, how, hts, hlk, hnm, hK, -⟩ := id hC
  have hat := hR.at1 ha (by decide : (5 : Nat) ≠ 0)
  rw [List.map_cons, List.map_cons, List.map_cons, tv_ref (hR.ne0 ha (by decide))]
  refine W.dast hx hb hat ((hK.2 3 _ rfl).1 n (fun j => .double (zD h a j))) (fun q => by cases q) (by show ¬ (i < 0 ∨ (arrV _ _ _).slots.size ≤ _); rw [arrV_size]; exact hi) rfl rfl hd fun H1 e9 z oq => ?_
  refine kk p l e s m args below meth cd H1 _ ls hC (arr_put hR ha (by decide) rfl (fun _ => rfl) (fun b hb => ent_congr rfl rfl rfl (up1_n _ _ hb) rfl) ?_ z oq) (hS.put z oq (hR.adr_in ha (by decide))) hL hl h1 h2
  show H1[adr g a]? = some (vp_cell _ _)
  rw [e9, vp_cell_d]
  show some ((vp_cell (gA g 5) (n, .inr (.inr (.inr (.inl (zD h a)))))).setSlot _ _) = _
  rw [vp_cell_d, arrV_store]
  refine congrArg (fun f : Nat → Value => some (arrV (gA g 5) n f)) (?_ : _ = fun j => Value.double (zD (sD h a i.toNatClampNeg x) a j))
  funext q
  by_cases hq : q = i.toNatClampNeg <;> simp [updV, zD, sD, up2, up1, hq]
theorem x_bastore {g : Gp} {M : MD} {pc : Nat} {L st : List AV} {h : AH} {u : Nat × Nat} {Q : PQ} {a n : Nat} {i : Int32} {x : Int32} (ha : zK h a = (4, n)) (h01 : x = 0 ∨ x = 1) (hi : vp_in i n) (hd : decode (mB M) pc = .ok (.bastore, 1)) (kk : Ex g M (pc + 1) L st (sI h a i.toNatClampNeg x) u Q) : Ex g M pc L (vI x :: vI i :: vR a :: st) h u Q := by
  intro p l e s m args below meth cd H locs ls hC hR hS hL hl h1 h2
  obtain ⟨hx, hb, hrt, hml, how, hts, hlk, hnm, hK, -⟩ := id hC
  have hat := hR.at1 ha (by decide : (4 : Nat) ≠ 0)
  rw [List.map_cons, List.map_cons, List.map_cons, tv_ref (hR.ne0 ha (by decide))]
  refine W.zast hx hb hat ((hK.2 2 _ rfl).1 n (fun j => .int (zI h a j))) (fun q => by cases q) (by show ¬ (i < 0 ∨ (arrV _ _ _).slots.size ≤ _); rw [arrV_size]; exact hi) rfl rfl hd fun H1 e9 z oq => ?_
  refine kk p l e s m args below meth cd H1 _ ls hC (arr_put hR ha (by decide) rfl (fun _ => rfl) (sfv_o g h a i.toNatClampNeg (vI x)) ?_ z oq) (hS.put z oq (hR.adr_in ha (by decide))) hL hl h1 h2
  show H1[adr g a]? = some (vp_cell _ _)
  rw [e9, vp_cell_i]
  show some ((vp_cell (gA g 4) (n, .inl (zI h a))).setSlot _ _) = _
  rw [vp_cell_i, arrV_store]
  have e8 : narrow .boolean (.int x) = .int x := by rcases h01 with rfl | rfl <;> rfl
  try rw [e8]
  refine congrArg (fun f : Nat → Value => some (arrV (gA g 4) n f)) (?_ : _ = fun j => Value.int (zI (sI h a i.toNatClampNeg x) a j))
  funext q
  by_cases hq : q = i.toNatClampNeg <;> simp [updV, zI, sI, up2, up1, hq]
theorem va_asgq {g : Gp} {s : State} (hK : va_K (gD g) clt (tyl g) s) {ci : Nat} {q : vw_C} (hc : clt[ci]? = some q) : s.vm.findClass q.1 = some ((gD g).1 ci) := (hK.1 ci q hc).2.1
