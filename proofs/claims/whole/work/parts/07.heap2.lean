theorem kind_fits {g : Gp} {c k : Nat} {v : AV} (ht : ftc (cty c k) = kind3 v) (h9 : kind3 v < 3) : narrow (cty c k) (tv g v) = tv g v ∧ fits (cty c k) (tv g v) = true := by
  generalize cty c k = T at ht
  rcases v with x | x | x | x | x
  · cases T <;> first | exact ⟨rfl, rfl⟩ | (simp [ftc, kind3] at ht)
  · cases T <;> first | exact ⟨rfl, rfl⟩ | (simp [ftc, kind3] at ht)
  · exact absurd h9 (by simp [kind3])
  · have h2 : tv g (vR x) = .null ∨ ∃ a, tv g (vR x) = .ref a := rv_or g x
    rcases h2 with e | ⟨a, e⟩
    · rw [e]; cases T <;> first | exact ⟨rfl, rfl⟩ | (simp [ftc, kind3] at ht)
    · rw [e]; cases T <;> first | exact ⟨rfl, rfl⟩ | (simp [ftc, kind3] at ht)
  · exact absurd h9 (by simp [kind3])
/-- a store: not final, or in the class's own constructor -/
def FWok (M : MD) (c k : Nat) : Prop := ∃ q : vw_C, clt[c]? = some q ∧ ((q.2.1 k).2.2.2 = false ∨ ((q.2.1 k).2.2.2 = true ∧ (mY M).name = "<init>" ∧ (q.2.1 k).1 = mO M))
theorem x_putfield {g : Gp} {M : MD} {pc : Nat} {L st : List AV} {h : AH} {u : Nat × Nat} {Q : PQ} {i c k a : Nat} {v : AV} (hf : FOk (mO M) i c k (kind3 v)) (hw9 : FWok M c k) (ha : zK h a = (1, c)) (hd : decode (mB M) pc = .ok (.putfield i, 3)) (kk : Ex g M (pc + 3) L st (sfv h a k v) u Q) : Ex g M pc L (v :: vR a :: st) h u Q := by
  intro p l e s m args below meth cd H locs ls hC hR hS hL hl h1 h2
  obtain ⟨hx, hb, hrt, hml, how, hts, hlk, hnm, hK, hO, hlt, htb⟩ := id hC
  obtain ⟨⟨C, T, N⟩, ref, hq, hk, ht, h3, hw, hs⟩ := hf
  have hat := hR.at1 ha Nat.one_ne_zero
  rw [List.map_cons, List.map_cons, tv_ref (hR.ne0 ha Nat.one_ne_zero)]
  have hsame : ∀ x, s.fieldFound? (T k).1 (T k).2.1 (T k).2.2.1 = some x → s.fieldFound? ref (T k).2.1 (T k).2.2.1 = some x := by
    intro x hx2
    rcases hs with e | e
    · rw [e]; exact hx2
    · exact u_same (hts _ e) x hx2
  obtain ⟨-, hty, hnm2⟩ := cok c _ hq
  have hin := cok_g c _ hq
  have hap := va_apart (own := mO M) hts hin (cty c) hty hnm2 hK hq
  obtain ⟨r, hr1, cell, q1, q2, q3, q4⟩ := hat
  have hr : r = (C, T, N) := Option.some.inj (hr1.symm.trans hq)
  subst hr
  obtain ⟨hS9, hfc, kC, hkC, hkind⟩ := hK.1 c _ hq
  obtain ⟨cf, kf, fi, f, hi, hsl⟩ := hS9 k hk
  obtain ⟨hn9, hfit⟩ := kind_fits (g := g) ht h3
  have hpd := hty k hk
  have hN := nfl_of hq
  -- the new cell
  have fin : ∀ (H' : Heap) (e1 : H'[adr g a]? = some (cell.setSlot f.slot (tv g v))) (e2 : H'.size = H.size) (e3 : ∀ q : Nat, q ≠ adr g a → H'[q]? = H[q]?),
      W p l e (rmM M) s m args below meth cd H' (locs ++ [⟨adr g a, f.slot⟩]) u.1 u.2 (vx_MQ below (Qn g Q) (Qx g Q) args s (mC M) (mS M) (gAd g)) (F0 m (pc + 3) ls (st.map (tv g))) := by
    intro H' e1 e2 e3
    rw [hsl] at e1
    have hat2 : va_at (gD g) clt (adr g a, ent g (sfv h a k v) a) H' := by
      have e9 : ent g (sfv h a k v) a = .inr (c, (List.range (nfl c)).map (fv g (sfv h a k v) c a)) := by
        unfold ent
        rw [(sfv_n h a k v).2, ha]
        rfl
      rw [e9]
      refine ⟨_, hq, t_OB.to (V := updV (vp_V ((List.range (nfl c)).map (fv g h c a))) k (tv g v)) ⟨_, e1, q2, q3, t_set q4 hap hk (tv g v)⟩ (fun j hj => ?_)⟩
      rw [vp_V_map (by rw [hN]; exact hj), ← sfv_fv ht rfl h3]
      simp only [updV]
      split
      · rfl
      · exact vp_V_map (by rw [hN]; exact hj)
    have hR2 : Rep g (sfv h a k v) H' := hR.put (sfv_n h a k v).1 (sfv_n h a k v).2 (sfv_o g h a k v) (by rw [ha]; exact Nat.one_ne_zero) hat2 e2 e3
    exact kk p l e s m args below meth cd H' _ ls hC hR2 (hS.put e2 e3 (hR.adr_in ha Nat.one_ne_zero)) hL hl h1 h2
  obtain ⟨q9, hq9, hwr⟩ := hw9
  have hq10 : q9 = (C, T, N) := Option.some.inj (hq9.symm.trans hq)
  subst hq10
  have hlay := hts _ (hin _ (u_in_lay hk))
  unfold u_lay at hlay
  rcases hwr with hfin | ⟨hfin, hin2, hdecl⟩
  · rw [if_neg (by rw [hfin]; decide)] at hlay
    have hst := (u_facts hfc hkC (u_lays hts hin hk) hi).1
    have h6 := u_store hfc hkC hkind hlay hi hpd hn9 hfit
    exact W.putK hx hb (f := f) ⟨how, hts _ hw, ⟨_, _, _, hsame _ hi⟩, hst⟩ (by rw [q2]; exact h6) q1 q3 (by rw [hsl]; exact k2_hasslot (q4 k hk)) rfl rfl hd fin
  · rw [if_pos hfin] at hlay
    have hst := (u_facts hfc hkC (u_lays hts hin hk) hi).1
    have hcf : m.cls = cf := by
      obtain ⟨_, _, c', _, _, _, -, -, hf', -, -, -, hown2, -⟩ := Cond.laysFinal_spec hlay
      have e1 : c' = cf := by have := hi.symm.trans hf'; simp at this; exact this.1.symm
      rw [hdecl] at hown2
      rw [← e1]; exact Option.some.inj (how.symm.trans hown2)
    have h6 := u_fits hfc hkC hkind (Or.inr hlay) hi hpd hn9 hfit
    exact W.putFinK hx hb how (hts _ hw) (hsame _ hi) hst hcf (hnm.trans hin2) (by rw [q2]; exact h6) q1 q3 (by rw [hsl]; exact k2_hasslot (q4 k hk)) rfl rfl hd fin
/-! ===== rows ===== -/
theorem x_iaload {g : Gp} {M : MD} {pc : Nat} {L st : List AV} {h : AH} {u : Nat × Nat} {Q : PQ} {a n : Nat} {i : Int32} (ha : zK h a = (2, n)) (hi : vp_in i n) (hd : decode (mB M) pc = .ok (.iaload, 1)) (kk : Ex g M (pc + 1) L (vI (zI h a i.toNatClampNeg) :: st) h u Q) : Ex g M pc L (vI i :: vR a :: st) h u Q := by
  intro p l e s m args below meth cd H locs ls hC hR hS hL hl h1 h2
  obtain ⟨hx, hb, hrt, hml, how, hts, hlk, hnm, hK, -⟩ := id hC
  rw [List.map_cons, List.map_cons, tv_ref (hR.ne0 ha (by decide))]
  exact va_iald hx hb hK (va_P1 (hR.at1 ha (by decide))) 0 0 rfl rfl hi hd (kk p l e s m args below meth cd H locs ls hC hR hS hL hl h1 h2)
theorem x_laload {g : Gp} {M : MD} {pc : Nat} {L st : List AV} {h : AH} {u : Nat × Nat} {Q : PQ} {a n : Nat} {i : Int32} (ha : zK h a = (3, n)) (hi : vp_in i n) (hd : decode (mB M) pc = .ok (.laload, 1)) (kk : Ex g M (pc + 1) L (vL (zL h a i.toNatClampNeg) :: st) h u Q) : Ex g M pc L (vI i :: vR a :: st) h u Q := by
  intro p l e s m args below meth cd H locs ls hC hR hS hL hl h1 h2
  obtain ⟨hx, hb, hrt, hml, how, hts, hlk, hnm, hK, -⟩ := id hC
  rw [List.map_cons, List.map_cons, tv_ref (hR.ne0 ha (by decide))]
  exact va_lald hx hb hK (va_P1 (hR.at1 ha (by decide))) 0 1 rfl rfl hi hd (kk p l e s m args below meth cd H locs ls hC hR hS hL hl h1 h2)
theorem x_baload {g : Gp} {M : MD} {pc : Nat} {L st : List AV} {h : AH} {u : Nat × Nat} {Q : PQ} {a n : Nat} {i : Int32} (ha : zK h a = (4, n)) (hi : vp_in i n) (hd : decode (mB M) pc = .ok (.baload, 1)) (kk : Ex g M (pc + 1) L (vI (zI h a i.toNatClampNeg) :: st) h u Q) : Ex g M pc L (vI i :: vR a :: st) h u Q := by
  intro p l e s m args below meth cd H locs ls hC hR hS hL hl h1 h2
  obtain ⟨hx, hb, hrt, hml, how, hts, hlk, hnm, hK, -⟩ := id hC
  rw [List.map_cons, List.map_cons, tv_ref (hR.ne0 ha (by decide))]
  exact va_zald hx hb hK (va_P1 (hR.at1 ha (by decide))) 0 2 rfl rfl hi hd (kk p l e s m args below meth cd H locs ls hC hR hS hL hl h1 h2)
theorem x_daload {g : Gp} {M : MD} {pc : Nat} {L st : List AV} {h : AH} {u : Nat × Nat} {Q : PQ} {a n : Nat} {i : Int32} (ha : zK h a = (5, n)) (hi : vp_in i n) (hd : decode (mB M) pc = .ok (.daload, 1)) (kk : Ex g M (pc + 1) L (vD (zD h a i.toNatClampNeg) :: st) h u Q) : Ex g M pc L (vI i :: vR a :: st) h u Q := by
  intro p l e s m args below meth cd H locs ls hC hR hS hL hl h1 h2
  obtain ⟨hx, hb, hrt, hml, how, hts, hlk, hnm, hK, -⟩ := id hC
  rw [List.map_cons, List.map_cons, tv_ref (hR.ne0 ha (by decide))]
  exact va_dald hx hb hK (va_P1 (hR.at1 ha (by decide))) 0 3 rfl rfl hi hd (kk p l e s m args below meth cd H locs ls hC hR hS hL hl h1 h2)
theorem rf_ro {g : Gp} {x : Nat} : va_rf (ro g x) = tv g (vR x) := by
  simp only [tv, ro, rv]
  split <;> rfl
/-- rows of references: Object[], Votes[], int[][] -/
def rty (t : Nat) : FieldType := match t with
  | 6 => .object "java/lang/Object"
  | 7 => .object "TonguerootFamily$Votes"
  | _ => .array .int
theorem entq {g : Gp} {h : AH} {a t n : Nat} (ht : t = 6 ∨ t = 7 ∨ t = 8) : entk g h a t n = .inl (gA g t, n, .inr (.inr (.inr (.inr (fun j => ro g (zR h a j)))))) := by
  rcases ht with rfl | rfl | rfl <;> rfl
theorem tylq {g : Gp} {t : Nat} (ht : t = 6 ∨ t = 7 ∨ t = 8) : (tyl g)[t - 2]? = some (gA g t, rty t) := by
  rcases ht with rfl | rfl | rfl <;> rfl
theorem x_aaload {g : Gp} {M : MD} {pc : Nat} {L st : List AV} {h : AH} {u : Nat × Nat} {Q : PQ} {a t n : Nat} {i : Int32} (ht : t = 6 ∨ t = 7 ∨ t = 8) (ha : zK h a = (t, n)) (hi : vp_in i n) (hd : decode (mB M) pc = .ok (.aaload, 1)) (kk : Ex g M (pc + 1) L (vR (zR h a i.toNatClampNeg) :: st) h u Q) : Ex g M pc L (vI i :: vR a :: st) h u Q := by
  intro p l e s m args below meth cd H locs ls hC hR hS hL hl h1 h2
  obtain ⟨hx, hb, hrt, hml, how, hts, hlk, hnm, hK, -⟩ := id hC
  have t0 : t ≠ 0 := by omega
  rw [List.map_cons, List.map_cons, tv_ref (hR.ne0 ha t0)]
  have hat := hR.at1 ha t0
  rw [entq ht] at hat
  have hlt : i.toNatClampNeg < n := Nat.not_le.mp fun q => hi (Or.inr q)
  refine W.aald (ty := rty t) (v := tv g (vR (zR h a i.toNatClampNeg))) hx hb hat ((hK.2 (t - 2) _ (tylq ht)).1 n (fun j => va_rf (ro g (zR h a j)))) (by rcases ht with rfl | rfl | rfl <;> rfl) (fun q => by cases q) (by show ¬ (i < 0 ∨ (arrV _ _ _).slots.size ≤ _); rw [arrV_size]; exact hi) ?_ rfl rfl hd (kk p l e s m args below meth cd H locs ls hC hR hS hL hl h1 h2)
  show (arrV _ n (fun j => va_rf (ro g (zR h a j)))).slots[i.toNatClampNeg]? = _
  rw [arrV_read _ _ hlt, rf_ro]
