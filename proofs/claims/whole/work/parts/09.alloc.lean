/-! ===== stores of references, what is made, casts, statics ===== -/
def AsgOk (t : Nat) (C : String) : Prop := (t = 6 ∧ Cond.castable C "java/lang/Object" ∈ lw_n) ∨ (t = 7 ∧ C = "TonguerootFamily$Votes")
def rtn (t : Nat) : String := match t with
  | 6 => "java/lang/Object"
  | _ => "TonguerootFamily$Votes"
theorem rty_n {t : Nat} (ht : t = 6 ∨ t = 7) : rty t = .object (rtn t) := by rcases ht with rfl | rfl <;> rfl
theorem x_aastore {g : Gp} {M : MD} {pc : Nat} {L st : List AV} {h : AH} {u : Nat × Nat} {Q : PQ} {a t n v ci : Nat} {r : vw_C} {i : Int32} (ha : zK h a = (t, n)) (hi : vp_in i n) (hv : zK h v = (1, ci)) (hc : clt[ci]? = some r) (hasg : AsgOk t r.1) (hd : decode (mB M) pc = .ok (.aastore, 1)) (kk : Ex g M (pc + 1) L st (sR h a i.toNatClampNeg v) u Q) : Ex g M pc L (vR v :: vI i :: vR a :: st) h u Q := by
  intro p l e s m args below meth cd H locs ls hC hR hS hL hl h1 h2
  obtain ⟨hx, hb, hrt, hml, how, hts, hlk, hnm, hK, hO, -⟩ := id hC
  have ht : t = 6 ∨ t = 7 := by rcases hasg with ⟨e, -⟩ | ⟨e, -⟩ <;> simp [e]
  have ht3 : t = 6 ∨ t = 7 ∨ t = 8 := by omega
  have t0 : t ≠ 0 := by omega
  have hat := hR.at1 ha t0
  rw [entq ht3] at hat
  rw [List.map_cons, List.map_cons, List.map_cons, tv_ref (hR.ne0 ha t0), tv_ref (hR.ne0 hv Nat.one_ne_zero)]
  have hlt : i.toNatClampNeg < n := Nat.not_le.mp fun q => hi (Or.inr q)
  have h0 : ¬ i < 0 := fun q => hi (Or.inl q)
  obtain ⟨cellV, g1, g3, g2⟩ := rep_recv hR hK hv hc
  have hty := tylq (g := g) ht3
  rw [rty_n ht] at hty
  obtain ⟨kA, comp, k1, k2, k3, -⟩ := (hK.2 (t - 2) _ hty).2
  obtain ⟨kE, hkE, -⟩ := Vm.findClass_spec k3
  obtain ⟨kC, hkC, -⟩ := Vm.findClass_spec g2
  have has : s.vm.assignable cellV.cls comp = true := by
    rcases hasg with ⟨e, hw⟩ | ⟨e, hw⟩
    · subst e
      exact vb_asgC (hO.nw _ hw) _ _ k3 g2
    · subst e
      rw [hw] at g2
      exact vb_asgS _ _ k3 g2
  refine W.aast hx hb hat (fun q h => by cases h) (fun h => by cases h) k1 k2 rfl hkE ⟨h0, by show _ < (arrV _ _ _).slots.size; rw [arrV_size]; exact hlt⟩ g1 (fun q h => by rw [h] at g3; cases g3) hkC has rfl rfl hd fun H1 e9 z oq => ?_
  refine kk p l e s m args below meth cd H1 _ ls hC (arr_put hR ha t0 rfl (fun _ => rfl) (sfv_o g h a i.toNatClampNeg (vR v)) ?_ z oq) (hS.put z oq (hR.adr_in ha t0)) hL hl h1 h2
  rw [entq ht3]
  show H1[adr g a]? = some (vp_cell _ _)
  rw [e9, vp_cell_q]
  show some ((vp_cell (gA g t) (n, .inr (.inr (.inr (.inr (fun j => ro g (zR h a j))))))).setSlot _ _) = _
  rw [vp_cell_q, arrV_store]
  refine congrArg (fun f : Nat → Value => some (arrV (gA g t) n f)) (?_ : _ = fun j => va_rf (ro g (zR (sR h a i.toNatClampNeg v) a j)))
  funext q
  by_cases hq : q = i.toNatClampNeg
  · simp only [updV, hq, if_true, zR, sR, up2, up1_s]
    exact (tv_ref (g := g) (hR.ne0 hv Nat.one_ne_zero)).symm.trans rf_ro.symm
  · simp [updV, zR, sR, up2, up1, hq]
theorem x_aastoreN {g : Gp} {M : MD} {pc : Nat} {L st : List AV} {h : AH} {u : Nat × Nat} {Q : PQ} {a t n : Nat} {i : Int32} (ht : t = 6 ∨ t = 7) (ha : zK h a = (t, n)) (hi : vp_in i n) (hd : decode (mB M) pc = .ok (.aastore, 1)) (kk : Ex g M (pc + 1) L st (sR h a i.toNatClampNeg 0) u Q) : Ex g M pc L (vR 0 :: vI i :: vR a :: st) h u Q := by
  intro p l e s m args below meth cd H locs ls hC hR hS hL hl h1 h2
  obtain ⟨hx, hb, hrt, hml, how, hts, hlk, hnm, hK, -⟩ := id hC
  have ht3 : t = 6 ∨ t = 7 ∨ t = 8 := by omega
  have t0 : t ≠ 0 := by omega
  have hat := hR.at1 ha t0
  rw [entq ht3] at hat
  rw [List.map_cons, List.map_cons, List.map_cons, tv_ref (hR.ne0 ha t0)]
  have hty := tylq (g := g) ht3
  rw [rty_n ht] at hty
  refine va_WaastN (C := rtn t) hx hb hat ((hK.2 (t - 2) _ hty).1 n (fun j => va_rf (ro g (zR h a j)))) (fun h => by cases h) (by show ¬ (i < 0 ∨ (arrV _ _ _).slots.size ≤ _); rw [arrV_size]; exact hi) rfl rfl hd fun H1 e9 z oq => ?_
  refine kk p l e s m args below meth cd H1 _ ls hC (arr_put hR ha t0 rfl (fun _ => rfl) (sfv_o g h a i.toNatClampNeg (vR 0)) ?_ z oq) (hS.put z oq (hR.adr_in ha t0)) hL hl h1 h2
  rw [entq ht3]
  show H1[adr g a]? = some (vp_cell _ _)
  rw [e9, vp_cell_q]
  show some ((vp_cell (gA g t) (n, .inr (.inr (.inr (.inr (fun j => ro g (zR h a j))))))).setSlot _ _) = _
  rw [vp_cell_q, arrV_store]
  refine congrArg (fun f : Nat → Value => some (arrV (gA g t) n f)) (?_ : _ = fun j => va_rf (ro g (zR (sR h a i.toNatClampNeg 0) a j)))
  funext q
  by_cases hq : q = i.toNatClampNeg
  · simp [updV, hq, zR, sR, up2, up1_s, ro, va_rf]
  · simp [updV, zR, sR, up2, up1, hq]
theorem entk_arr {g : Gp} {h : AH} {a t n : Nat} (ht : 2 ≤ t ∧ t ≤ 8) : ∃ x, entk g h a t n = .inl (gA g t, n, x) := by
  have : t = 2 ∨ t = 3 ∨ t = 4 ∨ t = 5 ∨ t = 6 ∨ t = 7 ∨ t = 8 := by omega
  rcases this with rfl | rfl | rfl | rfl | rfl | rfl | rfl <;> exact ⟨_, rfl⟩
theorem tyl_arr {g : Gp} {t : Nat} (ht : 2 ≤ t ∧ t ≤ 8) : ∃ ty, (tyl g)[t - 2]? = some (gA g t, ty) := by
  have : t = 2 ∨ t = 3 ∨ t = 4 ∨ t = 5 ∨ t = 6 ∨ t = 7 ∨ t = 8 := by omega
  rcases this with rfl | rfl | rfl | rfl | rfl | rfl | rfl <;> exact ⟨_, rfl⟩
theorem x_alen {g : Gp} {M : MD} {pc : Nat} {L st : List AV} {h : AH} {u : Nat × Nat} {Q : PQ} {a t n : Nat} (ht : 2 ≤ t ∧ t ≤ 8) (ha : zK h a = (t, n)) (hd : decode (mB M) pc = .ok (.arraylength, 1)) (kk : Ex g M (pc + 1) L (vI (nI n) :: st) h u Q) : Ex g M pc L (vR a :: st) h u Q := by
  intro p l e s m args below meth cd H locs ls hC hR hS hL hl h1 h2
  obtain ⟨hx, hb, hrt, hml, how, hts, hlk, hnm, hK, -⟩ := id hC
  have t0 : t ≠ 0 := by omega
  have hat := hR.at1 ha t0
  obtain ⟨x, ex⟩ := entk_arr (g := g) (h := h) (a := a) (n := n) ht
  obtain ⟨ty, ety⟩ := tyl_arr (g := g) ht
  rw [ex] at hat
  rw [List.map_cons, tv_ref (hR.ne0 ha t0)]
  exact va_alen hx hb hK (va_P1 hat) 0 (t - 2) rfl ety rfl hd (kk p l e s m args below meth cd H locs ls hC hR hS hL hl h1 h2)
/-- the script -/
theorem x_slen {g : Gp} {M : MD} {pc : Nat} {L st : List AV} {h : AH} {u : Nat × Nat} {Q : PQ} (hd : decode (mB M) pc = .ok (.arraylength, 1)) (kk : Ex g M (pc + 1) L (vI (nI (gl g)) :: st) h u Q) : Ex g M pc L (vR 1 :: st) h u Q := by
  intro p l e s m args below meth cd H locs ls hC hR hS hL hl h1 h2
  obtain ⟨hx, hb, hrt, hml, how, hts, hlk, hnm, hK, ⟨o1, o2, o3, o4, o5, -⟩, -⟩ := id hC
  have e1 : tv g (vR 1) = .ref (gb g) := rfl
  rw [List.map_cons, e1]
  exact va_slen (A := gAd g) hx hb o5 (Nat.lt_of_lt_of_le o2 o1) (Nat.not_le.mpr o2) hS hd (kk p l e s m args below meth cd H locs ls hC hR hS hL hl h1 h2)
theorem x_sload {g : Gp} {M : MD} {pc : Nat} {L st : List AV} {h : AH} {u : Nat × Nat} {Q : PQ} {i : Int32} (hi : vp_in i (gl g)) (hd : decode (mB M) pc = .ok (.iaload, 1)) (kk : Ex g M (pc + 1) L (vI (gx g i.toNatClampNeg) :: st) h u Q) : Ex g M pc L (vI i :: vR 1 :: st) h u Q := by
  intro p l e s m args below meth cd H locs ls hC hR hS hL hl h1 h2
  obtain ⟨hx, hb, hrt, hml, how, hts, hlk, hnm, hK, ⟨o1, o2, o3, o4, o5, -⟩, -⟩ := id hC
  have e1 : tv g (vR 1) = .ref (gb g) := rfl
  rw [List.map_cons, List.map_cons, e1]
  exact va_sld (A := gAd g) hx hb o5 (Nat.lt_of_lt_of_le o2 o1) (Nat.not_le.mpr o2) hS hi hd (kk p l e s m args below meth cd H locs ls hC hR hS hL hl h1 h2)
/-- ArrayList's empty row -/
theorem x_gets {g : Gp} {M : MD} {pc i : Nat} {L st : List AV} {h : AH} {u : Nat × Nat} {Q : PQ} (hw : Cond.fieldLink (mO M) i "java/util/ArrayList" "DEFAULTCAPACITY_EMPTY_ELEMENTDATA" "[Ljava/lang/Object;" ∈ lw_g) (hd : decode (mB M) pc = .ok (.getstatic i, 3)) (kk : Ex g M (pc + 3) L (vR 2 :: st) h u Q) : Ex g M pc L st h u Q := by
  intro p l e s m args below meth cd H locs ls hC hR hS hL hl h1 h2
  obtain ⟨hx, hb, hrt, hml, how, hts, hlk, hnm, hK, ⟨o1, o2, o3, o4, o5, o6, -⟩, -⟩ := id hC
  exact va_gets hx hb o6 hS how (hts _ hw) (fun _ h9 => h9) hd (kk p l e s m args below meth cd H locs ls hC hR hS hL hl h1 h2)
theorem x_elen {g : Gp} {M : MD} {pc : Nat} {L st : List AV} {h : AH} {u : Nat × Nat} {Q : PQ} (hd : decode (mB M) pc = .ok (.arraylength, 1)) (kk : Ex g M (pc + 1) L (vI 0 :: st) h u Q) : Ex g M pc L (vR 2 :: st) h u Q := by
  intro p l e s m args below meth cd H locs ls hC hR hS hL hl h1 h2
  obtain ⟨hx, hb, hrt, hml, how, hts, hlk, hnm, hK, ⟨o1, o2, o3, o4, o5, o6, o7, -⟩, -⟩ := id hC
  have e1 : tv g (vR 2) = .ref (gt g) := rfl
  rw [List.map_cons, e1]
  exact va_tlen hx hb o7 hS (v := 0) rfl hd (kk p l e s m args below meth cd H locs ls hC hR hS hL hl h1 h2)
theorem adr_inj {g : Gp} {x y : Nat} (hg : gt g < gN g) (hx : x ≠ 0 ∧ x ≠ 1 ∧ x ≠ 3) (hy : y ≠ 0 ∧ y ≠ 1 ∧ y ≠ 3) (h : adr g x = adr g y) : x = y := by
  unfold adr at h
  rw [if_neg hx.2.1, if_neg hy.2.1] at h
  simp only [if_neg hx.2.2, if_neg hy.2.2] at h
  split at h <;> split at h <;> omega
theorem x_acmp_eq {g : Gp} {M : MD} {pc : Nat} {L st : List AV} {h : AH} {u : Nat × Nat} {Q : PQ} {x y : Nat} {off : Int} {t : Nat} (hx9 : x ≠ 1 ∧ x ≠ 3) (hy9 : y ≠ 1 ∧ y ≠ 3) (ht : (pc : Int) + off = (t : Int)) (hd : decode (mB M) pc = .ok (.if_acmp .eq off, 3)) (kt : x = y → Ex g M t L st h u Q) (kf : x ≠ y → Ex g M (pc + 3) L st h u Q) : Ex g M pc L (vR y :: vR x :: st) h u Q := by
  intro p l e s m args below meth cd H locs ls hC hR hS hL hl h1 h2
  obtain ⟨hx, hb, hrt, hml, how, hts, hlk, hnm, hK, ⟨o1, o2, o3, -⟩, -⟩ := id hC
  rw [List.map_cons, List.map_cons, ← rf_ro, ← rf_ro]
  have hiff : ro g x = ro g y → x = y := by
    intro he
    unfold ro at he
    split at he <;> split at he
    · omega
    · cases he
    · cases he
    · exact adr_inj o3 ⟨by assumption, hx9.1, hx9.2⟩ ⟨by assumption, hy9.1, hy9.2⟩ (Option.some.inj he)
  exact lv_acmp_eq hx hb hd ht (fun hc => kt (hiff hc) p l e s m args below meth cd H locs ls hC hR hS hL hl h1 h2) (fun hc => kf (fun he => hc (by rw [he])) p l e s m args below meth cd H locs ls hC hR hS hL hl h1 h2)
/-! ===== casts, Object's constructor, Math ===== -/
theorem x_cast {g : Gp} {M : MD} {pc i a c : Nat} {r : vw_C} {L st : List AV} {h : AH} {u : Nat × Nat} {Q : PQ} (hl9 : Cond.classLink (mO M) i r.1 ∈ lw_g) (hc9 : clt[c]? = some r) (ha : zK h a = (1, c)) (hd : decode (mB M) pc = .ok (.checkcast i, 3)) (kk : Ex g M (pc + 3) L (vR a :: st) h u Q) : Ex g M pc L (vR a :: st) h u Q := by
  intro p l e s m args below meth cd H locs ls hC hR hS hL hl h1 h2
  obtain ⟨hx, hb, hrt, hml, how, hts, hlk, hnm, hK, -⟩ := id hC
  have kq := kk p l e s m args below meth cd H locs ls hC hR hS hL hl h1 h2
  rw [List.map_cons, tv_ref (hR.ne0 ha Nat.one_ne_zero)] at kq ⊢
  exact va_castS hx hb how (hts _ hl9) (hK.1 c r hc9).2 (rep_recv hR hK ha hc9) hd kq
theorem x_objInit {g : Gp} {M : MD} {pc i a : Nat} {L st : List AV} {h : AH} {u : Nat × Nat} {Q : PQ} (hl9 : Cond.methodLink (mO M) i Lib.objectInit ∈ lw_g) (hi9 : Cond.instanceMethod Lib.objectInit ∈ lw_g) (hc9 : Cond.code Lib.objectInit ⟨#[0xb1]⟩ 1 none ∈ lw_g) (ha : a ≠ 0) (hdp : 1 ≤ mDp M) (hst : st.length ≤ 4) (hd : decode (mB M) pc = .ok (.invokespecial i, 3)) (kk : Ex g M (pc + 3) L st h u Q) : Ex g M pc L (vR a :: st) h u Q := by
  intro p l e s m args below meth cd H locs ls hC hR hS hL hl h1 h2
  obtain ⟨hx, hb, hrt, hml, how, hts, hlk, hnm, hK, -⟩ := id hC
  rw [List.map_cons, tv_ref ha]
  have hrm := lr_room (g := g) (m := m) (pc := pc) (ls := ls) (st := (.ref (adr g a) :: st.map (tv g))) hst
  refine W.objInit hx hb how (hts _ hl9) (hts _ hi9) (hts _ hc9) rfl (by rw [hml, ← hl]; exact hL.1) rfl hd hdp (by show _ ≤ 64 * mDp M + 100; omega) ?_
  exact kk p l e s m args below meth cd H locs ls hC hR hS hL hl h1 h2
theorem x_mmax {g : Gp} {M : MD} {pc i : Nat} {x y : Int32} {L st : List AV} {h : AH} {u : Nat × Nat} {Q : PQ} (hl9 : Cond.methodLink (mO M) i Lib.Math.max.name ∈ lw_g) (hs9 : Cond.static Lib.Math.max.name ∈ lw_g) (hi9 : Cond.initialized "java/lang/Math" ∈ lw_g) (hc9 : Cond.code Lib.Math.max.name Lib.Math.max.code 2 (some .int) ∈ lw_g) (hdp : 1 ≤ mDp M) (hst : st.length ≤ 4) (hd : decode (mB M) pc = .ok (.invokestatic i, 3)) (kk : Ex g M (pc + 3) L (vI (if x < y then y else x) :: st) h u Q) : Ex g M pc L (vI y :: vI x :: st) h u Q := by
  intro p l e s m args below meth cd H locs ls hC hR hS hL hl h1 h2
  obtain ⟨hx, hb, hrt, hml, how, hts, hlk, hnm, hK, -⟩ := id hC
  have hrm := lr_room (g := g) (m := m) (pc := pc) (ls := ls) (st := (st.map (tv g))) hst
  exact va_mmax hx hb (by rw [hml, ← hl]; exact hL.1.symm) how (hts _ hl9) (hts _ hs9) (hts _ hi9) (hts _ hc9) hdp (by show _ ≤ 64 * mDp M + 100; omega) h1 h2 hd (kk p l e s m args below meth cd H locs ls hC hR hS hL hl h1 h2)
theorem x_mmin {g : Gp} {M : MD} {pc i : Nat} {x y : Int32} {L st : List AV} {h : AH} {u : Nat × Nat} {Q : PQ} (hl9 : Cond.methodLink (mO M) i Lib.Math.min.name ∈ lw_g) (hs9 : Cond.static Lib.Math.min.name ∈ lw_g) (hi9 : Cond.initialized "java/lang/Math" ∈ lw_g) (hc9 : Cond.code Lib.Math.min.name Lib.Math.min.code 2 (some .int) ∈ lw_g) (hdp : 1 ≤ mDp M) (hst : st.length ≤ 4) (hd : decode (mB M) pc = .ok (.invokestatic i, 3)) (kk : Ex g M (pc + 3) L (vI (if y < x then y else x) :: st) h u Q) : Ex g M pc L (vI y :: vI x :: st) h u Q := by
  intro p l e s m args below meth cd H locs ls hC hR hS hL hl h1 h2
  obtain ⟨hx, hb, hrt, hml, how, hts, hlk, hnm, hK, -⟩ := id hC
  have hrm := lr_room (g := g) (m := m) (pc := pc) (ls := ls) (st := (st.map (tv g))) hst
  exact va_mmin hx hb (by rw [hml, ← hl]; exact hL.1.symm) how (hts _ hl9) (hts _ hs9) (hts _ hi9) (hts _ hc9) hdp (by show _ ≤ 64 * mDp M + 100; omega) h1 h2 hd (kk p l e s m args below meth cd H locs ls hC hR hS hL hl h1 h2)
/-! ===== what is made ===== -/
theorem Rep.top {g : Gp} {h : AH} {H : Heap} (hR : Rep g h H) : adr g (zN h) = H.size := by
  rw [adr_ge hR.1]
  have := hR.1
  have := hR.2.1
  omega
theorem nw_old {g : Gp} {h : AH} {kd : Nat × Nat} {b : Nat} (hb : b ≠ zN h) : zK (nw h kd) b = zK h b ∧ ent g (nw h kd) b = ent g h b := by
  have hb2 : b ≠ h.1 := hb
  have e1 : zK (nw h kd) b = zK h b := up1_n _ _ hb2
  exact ⟨e1, ent_congr e1 (up1_n _ _ hb2) (up1_n _ _ hb2) (up1_n _ _ hb2) (up1_n _ _ hb2)⟩
theorem Rep.new {g : Gp} {h : AH} {kd : Nat × Nat} {H H1 : Heap} (hR : Rep g h H) (hsz : H1.size = H.size + 1) (hold : ∀ q : Nat, q < H.size → H1[q]? = H[q]?) (hnew : va_at (gD g) clt (H.size, entk g (nw h kd) (zN h) kd.1 kd.2) H1) : Rep g (nw h kd) H1 := by
  have h3 := hR.1
  have hs := hR.2.1
  have hn : zN (nw h kd) = zN h + 1 := rfl
  have hk : zK (nw h kd) (zN h) = kd := up1_s _ _ _
  refine ⟨by rw [hn]; omega, by rw [hn, hsz]; omega, fun b hb => ?_, fun b hb => ?_⟩
  · rw [(nw_old (g := g) (h := h) (kd := kd) (by omega)).1]
    exact hR.2.2.1 b (by omega)
  · by_cases e : b = zN h
    · subst e
      rw [hR.top]
      unfold ent
      rw [hk]
      exact hnew
    · rw [(nw_old (g := g) (kd := kd) e).1] at hb
      rw [(nw_old (g := g) (kd := kd) e).2]
      refine (hR.2.2.2 b hb).kept (hold _ ?_)
      have := hR.ge hb
      show adr g b < _
      rw [adr_ge this.1]
      omega
theorem va_S.grow {g : Gp} {H0 H H1 : Heap} {locs : List Loc} (hS : va_S (gAd g) H0 H locs) (hz : H.size ≤ H1.size) (hold : ∀ q : Nat, q < H.size → H1[q]? = H[q]?) : va_S (gAd g) H0 H1 locs :=
  ⟨Nat.le_trans hS.1 hz, fun x h1 h2 => (hold x (Nat.lt_of_lt_of_le h1 hS.1)).trans (hS.2.1 x h1 h2), hS.2.2⟩
theorem x_new {g : Gp} {M : MD} {pc i c : Nat} {r : vw_C} {L st : List AV} {h : AH} {u : Nat × Nat} {Q : PQ} (hl9 : Cond.classLink (mO M) i r.1 ∈ lw_g) (hin9 : Cond.instantiable r.1 r.2.2 ∈ lw_g) (hini : Cond.initialized r.1 ∈ lw_g) (hc9 : clt[c]? = some r) (hft : ∀ k, k < r.2.2 → ftc (cty c k) < 3) (hu1 : u.1 + 1 ≤ mC M) (hu2 : u.2 + r.2.2 ≤ mS M) (hd : decode (mB M) pc = .ok (.new i, 3)) (kk : Ex g M (pc + 3) L (vR (zN h) :: st) (nw h (1, c)) (u.1 + 1, u.2 + r.2.2) Q) : Ex g M pc L st h u Q := by
  intro p l e s m args below meth cd H locs ls hC hR hS hL hl h1 h2
  obtain ⟨hx, hb, hrt, hml, how, hts, hlk, hnm, hK, -⟩ := id hC
  obtain ⟨C, T, N⟩ := r
  have hKn := hK.1 c _ hc9
  refine W.newcK hx hb how (hts _ hl9) (hts _ hin9) (hts _ hini) rfl hd hu1 hu2 hKn.2.1 rfl fun H1 kC hkC e1 z1 o1 => ?_
  have hob := u_born (cty c) hts (cok_g c _ hc9) hKn hkC e1 (cok c _ hc9).2.1
  have hR2 : Rep g (nw h (1, c)) H1 := hR.new z1 o1 ⟨_, hc9, hob.to (fun k hk => by
    rw [vp_V_map (by rw [nfl_of hc9]; exact hk)]
    have hz : zI (nw h (1, c)) (zN h) = fun _ => 0 := up1_s _ _ _
    have hz2 : zL (nw h (1, c)) (zN h) = fun _ => 0 := up1_s _ _ _
    have hz3 : zR (nw h (1, c)) (zN h) = fun _ => 0 := up1_s _ _ _
    unfold fv
    rw [hz, hz2, hz3]
    have := hft k hk
    generalize cty c k = ty at this ⊢
    cases ty <;> first | rfl | (simp [ftc] at this))⟩
  have kq := kk p l e s m args below meth cd H1 locs ls hC hR2 (hS.grow (by omega) o1) hL hl hu1 hu2
  have h0 : zN h ≠ 0 := by have := hR.1; omega
  rw [List.map_cons, tv_ref h0, hR.top] at kq
  exact kq
theorem nw_rows {h : AH} {kd : Nat × Nat} : zI (nw h kd) (zN h) = (fun _ => 0) ∧ zL (nw h kd) (zN h) = (fun _ => 0) ∧ zD (nw h kd) (zN h) = (fun _ => 0) ∧ zR (nw h kd) (zN h) = (fun _ => 0) := ⟨up1_s _ _ _, up1_s _ _ _, up1_s _ _ _, up1_s _ _ _⟩
/-- rows of numbers: int 2, long 3, boolean 4, double 5 -/
def atk (t : Nat) : ArrayType := match t with
  | 2 => .int
  | 3 => .long
  | 4 => .boolean
  | _ => .double
theorem x_newarray {g : Gp} {M : MD} {pc t N : Nat} {n : Int32} {L st : List AV} {h : AH} {u : Nat × Nat} {Q : PQ} (ht : t = 2 ∨ t = 3 ∨ t = 4 ∨ t = 5) (hw : Cond.arrayClass (newarray.typeOf (atk t)) ∈ lw_g) (hn : ¬ n < 0) (hN : n.toNatClampNeg = N) (hN2 : N ≤ 60000000) (hu1 : u.1 + 1 ≤ mC M) (hu2 : u.2 + N ≤ mS M) (hd : decode (mB M) pc = .ok (.newarray (atk t), 2)) (kk : Ex g M (pc + 2) L (vR (zN h) :: st) (nw h (t, N)) (u.1 + 1, u.2 + N) Q) : Ex g M pc L (vI n :: st) h u Q := by
  intro p l e s m args below meth cd H locs ls hC hR hS hL hl h1 h2
  obtain ⟨hx, hb, hrt, hml, how, hts, hlk, hnm, hK, -⟩ := id hC
  have hby : N * componentBytes (newarray.typeOf (atk t)) ≤ 536870912 := by
    rcases ht with rfl | rfl | rfl | rfl <;> (simp only [atk, newarray.typeOf, componentBytes]; omega)
  refine va_newaK hx hb (atype := atk t) (hts _ hw) rfl hd rfl hn hN hby hu1 hu2 rfl fun H1 cA e1 z1 o1 hAr hNm => ?_
  have hcA : cA = gA g t := by
    rcases ht with rfl | rfl | rfl | rfl
    · exact Option.some.inj (hNm.symm.trans (hK.2 0 _ rfl).2)
    · exact Option.some.inj (hNm.symm.trans (hK.2 1 _ rfl).2)
    · exact Option.some.inj (hNm.symm.trans (hK.2 2 _ rfl).2)
    · exact Option.some.inj (hNm.symm.trans (hK.2 3 _ rfl).2)
  subst hcA
  have hR2 : Rep g (nw h (t, N)) H1 := hR.new z1 o1 (by
    obtain ⟨r1, r2, r3, r4⟩ := nw_rows (h := h) (kd := (t, N))
    show va_at _ _ (H.size, entk g (nw h (t, N)) (zN h) t N) H1
    rcases ht with rfl | rfl | rfl | rfl
    · simp only [entk, r1]; exact e1
    · simp only [entk, r2]; exact e1
    · simp only [entk, r1]; exact e1
    · simp only [entk, r3]; exact e1)
  have kq := kk p l e s m args below meth cd H1 locs ls hC hR2 (hS.grow (by omega) o1) hL hl hu1 hu2
  have h0 : zN h ≠ 0 := by have := hR.1; omega
  rw [List.map_cons, tv_ref h0, hR.top] at kq
  exact kq
theorem x_anewarray {g : Gp} {M : MD} {pc t N i : Nat} {n : Int32} {L st : List AV} {h : AH} {u : Nat × Nat} {Q : PQ} (ht : t = 6 ∨ t = 7) (hl9 : Cond.classLink (mO M) i (rtn t) ∈ lw_g) (hw : Cond.arrayOver (.object (rtn t)) ∈ lw_n) (hn : ¬ n < 0) (hN : n.toNatClampNeg = N) (hN2 : N ≤ 60000000) (hu1 : u.1 + 1 ≤ mC M) (hu2 : u.2 + N ≤ mS M) (hd : decode (mB M) pc = .ok (.anewarray i, 3)) (kk : Ex g M (pc + 3) L (vR (zN h) :: st) (nw h (t, N)) (u.1 + 1, u.2 + N) Q) : Ex g M pc L (vI n :: st) h u Q := by
  intro p l e s m args below meth cd H locs ls hC hR hS hL hl h1 h2
  obtain ⟨hx, hb, hrt, hml, how, hts, hlk, hnm, hK, hO, -⟩ := id hC
  subst hN
  refine W.anew hx hb how (hts _ hl9) (nw_use rfl (hO.nw _ hw)) rfl hd rfl hn (by omega) hu1 hu2 fun cA kA comp f1 f2 f3 f4 => ?_
  generalize hH1 : H.push ({ cls := cA, slots := Array.replicate n.toNatClampNeg .null, vm := .none } : Cell) = H1
  have z1 : H1.size = H.size + 1 := by rw [← hH1, Array.size_push]
  have e1 : H1[H.size]? = some (arrV cA n.toNatClampNeg (fun _ => .null)) := by rw [← hH1, Array.getElem?_push_size, ← arrV_new]
  have o1 : ∀ q : Nat, q < H.size → H1[q]? = H[q]? := fun q hq => by rw [← hH1, Array.getElem?_push, if_neg (Nat.ne_of_lt hq)]
  have hcA : cA = gA g t := by
    rcases ht with rfl | rfl
    · obtain ⟨_, _, -, -, -, hf⟩ := (hK.2 4 _ rfl).2
      exact Option.some.inj (f1.symm.trans hf)
    · obtain ⟨_, _, -, -, -, hf⟩ := (hK.2 5 _ rfl).2
      exact Option.some.inj (f1.symm.trans hf)
  subst hcA
  have hR2 : Rep g (nw h (t, n.toNatClampNeg)) H1 := hR.new z1 o1 (by
    obtain ⟨r1, r2, r3, r4⟩ := nw_rows (h := h) (kd := (t, n.toNatClampNeg))
    show va_at _ _ (H.size, entk g (nw h (t, n.toNatClampNeg)) (zN h) t n.toNatClampNeg) H1
    rw [entq (by omega), r4]
    exact e1)
  have kq := kk p l e s m args below meth cd H1 locs ls hC hR2 (hS.grow (by omega) o1) hL hl hu1 hu2
  have h0 : zN h ≠ 0 := by have := hR.1; omega
  rw [List.map_cons, tv_ref h0, hR.top] at kq
  exact kq
theorem x_acmp_ne_same {g : Gp} {M : MD} {pc : Nat} {L st : List AV} {h : AH} {u : Nat × Nat} {Q : PQ} {x : Nat} {off : Int} {t : Nat} (ht : (pc : Int) + off = (t : Int)) (hd : decode (mB M) pc = .ok (.if_acmp .ne off, 3)) (kf : Ex g M (pc + 3) L st h u Q) : Ex g M pc L (vR x :: vR x :: st) h u Q := by
  intro p l e s m args below meth cd H locs ls hC hR hS hL hl h1 h2
  obtain ⟨hx, hb, -⟩ := id hC
  rw [List.map_cons, List.map_cons, ← rf_ro]
  exact lv_acmp_ne hx hb hd ht (fun hc => absurd rfl hc) (fun _ => kf p l e s m args below meth cd H locs ls hC hR hS hL hl h1 h2)
/-- the Class object of Object[] -/
theorem x_ldcM {g : Gp} {M : MD} {pc i : Nat} {L st : List AV} {h : AH} {u : Nat × Nat} {Q : PQ} (hw : Cond.classLink (mO M) i "[Ljava/lang/Object;" ∈ lw_g) (hd : decode (mB M) pc = .ok (.ldc i, 2)) (kk : Ex g M (pc + 2) L (vR 3 :: st) h u Q) : Ex g M pc L st h u Q := by
  intro p l e s m args below meth cd H locs ls hC hR hS hL hl h1 h2
  obtain ⟨hx, hb, hrt, hml, how, hts, hlk, hnm, hK, ⟨o1, o2, o3, o4, o5, o6, o7, o8, o9, o10, o11, o12, o13, -⟩, -⟩ := id hC
  exact va_ldcM hx hb how (hts _ hw) o13 hd (kk p l e s m args below meth cd H locs ls hC hR hS hL hl h1 h2)
def gcN : MethodName := ⟨"java/lang/Object", "getClass", "()Ljava/lang/Class;"⟩
theorem x_getC {g : Gp} {M : MD} {pc i a n : Nat} {L st : List AV} {h : AH} {u : Nat × Nat} {Q : PQ} (hw1 : Cond.methodLink (mO M) i gcN ∈ lw_g) (hw2 : Cond.declares gcN ∈ lw_n) (hw3 : Cond.selects "[Ljava/lang/Object;" gcN gcN ∈ lw_g) (hw4 : Cond.instanceMethod gcN ∈ lw_g) (hw5 : Cond.native gcN ∈ lw_g) (ha : zK h a = (6, n)) (hdp : 1 ≤ mDp M) (hst : st.length ≤ 4) (hd : decode (mB M) pc = .ok (.invokevirtual i, 3)) (kk : Ex g M (pc + 3) L (vR 3 :: st) h u Q) : Ex g M pc L (vR a :: st) h u Q := by
  intro p l e s m args below meth cd H locs ls hC hR hS hL hl h1 h2
  obtain ⟨hx, hb, hrt, hml, how, hts, hlk, hnm, hK, hO, -⟩ := id hC
  obtain ⟨o1, o2, o3, o4, o5, o6, o7, o8, o9, o10, o11, o12, o13, -⟩ := id hO
  have hrm := lr_room (g := g) (m := m) (pc := pc) (ls := ls) (st := (st.map (tv g))) hst
  have hat := hR.at1 ha (by decide)
  rw [List.map_cons, tv_ref (hR.ne0 ha (by decide))]
  refine va_getC hx hb (by rw [hml, ← hl]; exact hL.1.symm) how (hts _ hw1) (nw_use rfl (hO.nw _ hw2)) (hts _ hw3) (hts _ hw4) (hts _ hw5) o13 ⟨_, hat, rfl, va_nmO (hK.2 4 _ rfl).2 (by decide +kernel)⟩ hdp ?_ hd (kk p l e s m args below meth cd H locs ls hC hR hS hL hl h1 h2)
  have h7 : 2 * 0 + ((st.map (tv g)).map fun v => v.category).sum ≤ 8 := hrm
  show _ ≤ 64 * mDp M + 100
  omega
