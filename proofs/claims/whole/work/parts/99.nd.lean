/-! ===== the law (by program) ===== -/
def mL_law_ : MD := (yL_law_, cL_law_, 9, (some FieldType.boolean), [], (20, 20000, 900000), cfL)
theorem qL_law_ : mR mL_law_ = (some FieldType.boolean) := rfl
theorem qCL_law_ : mC mL_law_ = 20000 := rfl
theorem qSL_law_ : mS mL_law_ = 900000 := rfl
abbrev LW9 (i : Nat) : List AV := [vR 1, vR 4, vR 99, vR 122, vR 123, vI (nI i), vU, vU, vU]
theorem lcmp_self {x : Int64} : lg_cmp x x = 0 := by
  unfold lg_cmp
  simp
theorem dcmp_self {x : UInt64} (hx : FP.dcmp x 0 ≠ none) : FP.dcmp x x = some .eq := by
  revert hx
  show FP.Core.order (FP.Core.decode FP.Core.b64 x.toNat) _ ≠ none → FP.Core.order (FP.Core.decode FP.Core.b64 x.toNat) (FP.Core.decode FP.Core.b64 x.toNat) = some .eq
  generalize FP.Core.decode FP.Core.b64 x.toNat = d
  intro hx
  cases d with
  | nan => exact absurd rfl hx
  | inf s => show some (compare (FP.Core.signed s 1) (FP.Core.signed s 1)) = _; rw [Int.compare_eq_eq.mpr rfl]
  | fin a b c => show some (compare (FP.Core.signed a (FP.Core.inUnits b c (min c c))) (FP.Core.signed a (FP.Core.inUnits b c (min c c)))) = _; rw [Int.compare_eq_eq.mpr rfl]
theorem Ex.wid {g : Gp} {M : MD} {pc : Nat} {L st : List AV} {h : AH} {u u' : Nat × Nat} {Q : PQ} (h1 : u.1 ≤ u'.1) (h2 : u.2 ≤ u'.2) (h3 : u'.1 ≤ mC M) (h4 : u'.2 ≤ mS M) (k : Ex g M pc L st h u' Q) : Ex g M pc L st h u Q := by
  intro p l e s m args below meth c H locs ls hC hR hS hL hl g1 g2
  exact W.widen h1 h2 (k p l e s m args below meth c H locs ls hC hR hS hL hl h3 h4)
theorem Ex.fgt {g : Gp} {M : MD} {pc : Nat} {L L' st : List AV} {h : AH} {u : Nat × Nat} {Q : PQ} (hl : L'.length = L.length) (hs : ∀ (i : Nat) (v : AV), L'[i]? = some v → v ≠ vU → L[i]? = some v) (k : Ex g M pc L' st h u Q) : Ex g M pc L st h u Q := by
  intro p l e s m args below meth c H locs ls hC hR hS hL hl2 g1 g2
  exact k p l e s m args below meth c H locs ls hC hR hS ⟨hL.1.trans hl.symm, hL.2.1, fun i v q1 q2 => hL.2.2 i v (hs i v q1 q2) q2⟩ (hl.trans hl2) g1 g2
theorem Ex.fgt9 {g : Gp} {M : MD} {pc i : Nat} {x y z : AV} {h : AH} {u : Nat × Nat} {Q : PQ} (k : Ex g M pc (LW9 i) [] h u Q) : Ex g M pc [vR 1, vR 4, vR 99, vR 122, vR 123, vI (nI i), x, y, z] [] h u Q := Ex.fgt (L' := LW9 i) rfl (fun j v q1 q2 => by
  rcases j with _ | _ | _ | _ | _ | _ | _ | _ | _ | j
  · exact q1
  · exact q1
  · exact q1
  · exact q1
  · exact q1
  · exact q1
  · exact absurd (Option.some.inj q1).symm q2
  · exact absurd (Option.some.inj q1).symm q2
  · exact absurd (Option.some.inj q1).symm q2
  · exact q1) k
theorem x_arg {g : Gp} {Q : PQ} {L st : List AV} {h : AH} {u : Nat × Nat} {pc k i : Nat} {n : Int} (hg : gl g ≤ 3072) (hi : i + k < gl g) (h0 : lg L 0 = vR 1) (h5 : lg L 5 = vI (nI i)) (hv : Int32.ofInt n = nI k) (d0 : decode (mB mL_law_) pc = .ok (.aload_n 0, 1)) (d1 : decode (mB mL_law_) (pc + 1) = .ok (.iload 5, 2)) (d3 : decode (mB mL_law_) (pc + 3) = .ok (.iconst n, 1)) (d4 : decode (mB mL_law_) (pc + 4) = .ok (.iadd, 1)) (d5 : decode (mB mL_law_) (pc + 5) = .ok (.iaload, 1)) (kk : Ex g mL_law_ (pc + 6) L (vI (gx g (i + k)) :: st) h u Q) : Ex g mL_law_ pc L st h u Q := by
  refine x_aload_n (i := 0) rfl h0 d0 ?_
  refine x_iload h5 d1 ?_
  refine x_iconst hv d3 ?_
  refine x_iadd d4 ?_
  have e : nI i + nI k = nI (i + k) := nI_add i k
  rw [e]
  refine x_sload (vp_in_nI hi (by omega)) d5 ?_
  rw [nI_clamp (by omega)]
  exact kk
theorem x_tin {g : Gp} {M : MD} {pc : Nat} {L st : List AV} {h : AH} {u : Nat × Nat} {Q : PQ} {dflt lo hi : Int} {offs : Array Int} {len : Nat} {x : Int32} {off : Int} {tgt : Nat} (hd : decode (mB M) pc = .ok (.tableswitch dflt lo hi offs, len)) (h1 : ¬ x.toInt < lo) (h2 : ¬ hi < x.toInt) (ho : offs[(x.toInt - lo).toNat]? = some off) (ht : (pc : Int) + off = (tgt : Int)) (k : Ex g M tgt L st h u Q) : Ex g M pc L (vI x :: st) h u Q := by
  intro p l e s m args below meth c H locs ls hC hR hS hL hl g1 g2
  obtain ⟨hx, hb, hrt, hml, how, hts, hlk, hnm, hK, hO, hlt, htb⟩ := id hC
  exact lv_tableIn hx hb hd h1 h2 ho ht (k p l e s m args below meth c H locs ls hC hR hS hL hl g1 g2)
theorem x_tout {g : Gp} {M : MD} {pc : Nat} {L st : List AV} {h : AH} {u : Nat × Nat} {Q : PQ} {dflt lo hi : Int} {offs : Array Int} {len : Nat} {x : Int32} {tgt : Nat} (hd : decode (mB M) pc = .ok (.tableswitch dflt lo hi offs, len)) (h1 : x.toInt < lo ∨ hi < x.toInt) (ht : (pc : Int) + dflt = (tgt : Int)) (k : Ex g M tgt L st h u Q) : Ex g M pc L (vI x :: st) h u Q := by
  intro p l e s m args below meth c H locs ls hC hR hS hL hl g1 g2
  obtain ⟨hx, hb, hrt, hml, how, hts, hlk, hnm, hK, hO, hlt, htb⟩ := id hC
  exact lv_tableOut hx hb hd h1 ht (k p l e s m args below meth c H locs ls hC hR hS hL hl g1 g2)
theorem zD_sD {h : AH} {a k : Nat} {v : UInt64} : zD (sD h a k v) a = up1 (zD h a) k v := up1_s _ _ _
def CQd (st : St) (r : Int32 × UInt64) (Q : PQ) : Prop := ∀ h', FamS h' st → ModT h' st → Kd h' → (r.1 = 0 → zD h' 123 0 = r.2 ∧ FP.dcmp r.2 0 ≠ none) → Q (.inl (some (vI r.1))) h'
def MQd (st : St) (r : Int32 × UInt64) (Q : PQ) : Prop := ∀ h', FamS h' st → ModT h' st → Kd h' → zI h' 99 0 = r.1 → (r.1 = 0 → zD h' 123 0 = r.2 ∧ FP.dcmp r.2 0 ≠ none) → Q (.inl (some (vD r.2))) h'
theorem faD_nn {p : Nat × Nat} (h1 : p.1 ≤ 80 * 12) (h2 : p.2 ≤ 12) : FP.dcmp (faD p) 0 ≠ none := by
  unfold faD
  split
  · decide +kernel
  · rcases (fdv_ok (show p.1 < 1000 by omega) (show p.2 < 13 by omega) (by assumption)).2 with q | q <;> rw [q] <;> exact Option.some_ne_none _
abbrev farV (f : Nat → Nat) (gv : Nat → List Nat) (D : HD) (i j : Nat) : UInt64 := faD (dsm (cwm D f gv i j) 12)
theorem c_far {g : Gp} {h : AH} {Q : PQ} {f : Nat → Nat} {gv : Nat → List Nat} {op : Nat} {D : HD} {x y : Int32} (w : Wf h) (hf : FamR h f gv op D) (hm : ModR h f gv op D) (kd : Kd h) (hq : CQd (f, gv, op, D) (Od D (farV f gv D) x y) Q) : Ev g mL_far [vR 4, vI x, vI y, vR 123] h Q := by
  have hD : hdOk D := hm.2.2.2.2.2.2.2
  have hD1 := hD.2.1
  refine w_far hf.1.1.1 (e_far hf ?_ ?_)
  · intro i j hi hj e0 e1 rng h1 fc fr
    subst e0
    subst e1
    have er : Od D (farV f gv D) (nI i) (nI j) = (0, farV f gv D i j) := by unfold Od; rw [if_pos (ba (inb_i hi (by omega)) (inb_i hj (by omega)))]; rw [cl_n (show i < 2 ^ 31 by omega), cl_n (show j < 2 ^ 31 by omega)]
    rw [er] at hq
    have m1 : ModR h1 f gv op D := Fc.mod w fc hm
    have k1 : zK h1 122 = (3, 1) := fc.kd w kd.1 (by decide)
    have k2 : zK h1 123 = (5, 1) := fc.kd w kd.2 (by decide)
    have kp : Kp (fun a => a = 123) h1 (sD h1 123 0 (farV f gv D i j)) := Kp.sD rfl
    refine ⟨k2, fun w1 => hq _ (FamR.kz w1 (by have := w1.lt k2 (by decide); omega) fr kp fun a _ e => ⟨by omega, ?_⟩) (m1.kp w1 kp fun a _ q e => by omega) ⟨k1, k2⟩ fun _ => ⟨by rw [zD_sD, up1_s], faD_nn rng.1 rng.2⟩⟩
    rw [show a = 123 from e, k2]
    unfold hk
    decide
  · intro e n hn
    have er : Od D (farV f gv D) x y = (1, 0) := by unfold Od; rw [if_neg (fls e)]
    rw [er] at hq
    exact ⟨0, rfl, hq _ hf (Fc.mod w (Kp.bump hn) hm) ⟨kd.1, kd.2⟩ fun q => absurd q (by decide)⟩
theorem m_far {g : Gp} {h : AH} {Q : PQ} {f : Nat → Nat} {gv : Nat → List Nat} {op : Nat} {D : HD} {x y : Int32} (w : Wf h) (hf : FamR h f gv op D) (hm : ModR h f gv op D) (kd : Kd h) (hz : (Od D (farV f gv D) x y).1 = 0 → zD h 123 0 = (Od D (farV f gv D) x y).2 ∧ FP.dcmp (Od D (farV f gv D) x y).2 0 ≠ none) (hq : MQd (f, gv, op, D) (Od D (farV f gv D) x y) Q) : Ev g mX10_far [vR 99, vI x, vI y] h Q := by
  have hD : hdOk D := hm.2.2.2.2.2.2.2
  have hD1 := hD.2.1
  have ke : ∀ h1, Ms h h1 → zI h1 99 0 = (Od D (farV f gv D) x y).1 → Q (.inl (some (vD (Od D (farV f gv D) x y).2))) h1 := fun h1 ms e => by
    refine hq h1 (ms.c.fam w hm.1 hf) (ms.mod w hm) ⟨ms.c.kd w kd.1 (by decide), ms.c.kd w kd.2 (by decide)⟩ e fun e0 => ?_
    rw [(ms.c.2.2 123 (kd.n w) (by omega)).2.2.1]
    exact hz e0
  refine e_mfar hm ?_ ?_
  · intro i j hi hj e0 e1 h1 ms e
    subst e0
    subst e1
    have er : Od D (farV f gv D) (nI i) (nI j) = (0, farV f gv D i j) := by unfold Od; rw [if_pos (ba (inb_i hi (by omega)) (inb_i hj (by omega)))]; rw [cl_n (show i < 2 ^ 31 by omega), cl_n (show j < 2 ^ 31 by omega)]
    rw [er] at ke
    exact ke h1 ms e
  · intro e h1 ms e1
    have er : Od D (farV f gv D) x y = (1, 0) := by unfold Od; rw [if_neg (fls e)]
    rw [er] at ke
    exact ke h1 ms e1
theorem lent_b (f : Nat → Nat) (gv : Nat → List Nat) (op : Nat) (D : HD) (x y : Int32) : (O2 f gv op D D.1 12 (fun l m => if (cel D f gv m l).1 = (cel (noL D) f gv m l).1 then 0 else 1) x y).2.1 = 0 ∨ (O2 f gv op D D.1 12 (fun l m => if (cel D f gv m l).1 = (cel (noL D) f gv m l).1 then 0 else 1) x y).2.1 = 1 := by
  unfold O2
  split
  · show (if _ then (0 : Int32) else 1) = 0 ∨ (if _ then (0 : Int32) else 1) = 1
    split
    · exact Or.inl rfl
    · exact Or.inr rfl
  · exact Or.inl rfl
def swO : Array Int := #[147, 215, 271, 327, 383, 487, 543, 635, 648, 704, 717, 785, 853, 933, 1001, 1069, 1125, 1181, 1237, 1317, 1397, 1489, 1581, 1661, 1750, 1806, 1874, 1954, 2010, 2078, 2146, 2202, 2277]
theorem sw_d : decode (mB mL_law_) 45 = .ok (.tableswitch 2291 0 32 swO, 147) := by decide +kernel

