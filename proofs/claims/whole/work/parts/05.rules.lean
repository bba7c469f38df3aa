/-! ===== the rules of the instructions that leave the heap (by program) ===== -/
theorem x_iconst {g : Gp} {M : MD} {pc : Nat} {L st : List AV} {h : AH} {u : Nat × Nat} {Q : PQ} {n : Int} {v : Int32} (hv : Int32.ofInt n = v) (hd : decode (mB M) pc = .ok (.iconst n, 1)) (k : Ex g M (pc + 1) L (vI v :: st) h u Q) : Ex g M pc L (st) h u Q := by
  intro p l e s m args below meth c H locs ls hC hR hS hL hl h1 h2
  obtain ⟨hx, hb, hrt, hml, how, hts, -⟩ := id hC
  exact lv_iconst hx hb hd hv (k p l e s m args below meth c H locs ls hC hR hS hL hl h1 h2)
theorem x_bipush {g : Gp} {M : MD} {pc : Nat} {L st : List AV} {h : AH} {u : Nat × Nat} {Q : PQ} {n : Int} {v : Int32} (hv : (Int8.ofInt n).toInt32 = v) (hd : decode (mB M) pc = .ok (.bipush n, 2)) (k : Ex g M (pc + 2) L (vI v :: st) h u Q) : Ex g M pc L (st) h u Q := by
  intro p l e s m args below meth c H locs ls hC hR hS hL hl h1 h2
  obtain ⟨hx, hb, hrt, hml, how, hts, -⟩ := id hC
  exact lv_bipush hx hb hd hv (k p l e s m args below meth c H locs ls hC hR hS hL hl h1 h2)
theorem x_sipush {g : Gp} {M : MD} {pc : Nat} {L st : List AV} {h : AH} {u : Nat × Nat} {Q : PQ} {n : Int} {v : Int32} (hv : (Int16.ofInt n).toInt32 = v) (hd : decode (mB M) pc = .ok (.sipush n, 3)) (k : Ex g M (pc + 3) L (vI v :: st) h u Q) : Ex g M pc L (st) h u Q := by
  intro p l e s m args below meth c H locs ls hC hR hS hL hl h1 h2
  obtain ⟨hx, hb, hrt, hml, how, hts, -⟩ := id hC
  exact lv_sipush hx hb hd hv (k p l e s m args below meth c H locs ls hC hR hS hL hl h1 h2)
theorem x_lconst {g : Gp} {M : MD} {pc : Nat} {L st : List AV} {h : AH} {u : Nat × Nat} {Q : PQ} {n : Fin 2} {v : Int64} (hv : Int64.ofNat (n : Nat) = v) (hd : decode (mB M) pc = .ok (.lconst n, 1)) (k : Ex g M (pc + 1) L (vL v :: st) h u Q) : Ex g M pc L (st) h u Q := by
  intro p l e s m args below meth c H locs ls hC hR hS hL hl h1 h2
  obtain ⟨hx, hb, hrt, hml, how, hts, -⟩ := id hC
  exact lv_lconst hx hb hd hv (k p l e s m args below meth c H locs ls hC hR hS hL hl h1 h2)
theorem x_dconst0 {g : Gp} {M : MD} {pc : Nat} {L st : List AV} {h : AH} {u : Nat × Nat} {Q : PQ}  (hd : decode (mB M) pc = .ok (.dconst 0, 1)) (k : Ex g M (pc + 1) L (vD FP.dconst0 :: st) h u Q) : Ex g M pc L (st) h u Q := by
  intro p l e s m args below meth c H locs ls hC hR hS hL hl h1 h2
  obtain ⟨hx, hb, hrt, hml, how, hts, -⟩ := id hC
  exact lv_dconst0 hx hb hd (k p l e s m args below meth c H locs ls hC hR hS hL hl h1 h2)
theorem x_ldc {g : Gp} {M : MD} {pc : Nat} {L st : List AV} {h : AH} {u : Nat × Nat} {Q : PQ} {i : Nat} {v : Int32} (hw : Cond.constant (mO M) i v ∈ lw_g) (hd : decode (mB M) pc = .ok (.ldc i, 2)) (k : Ex g M (pc + 2) L (vI v :: st) h u Q) : Ex g M pc L (st) h u Q := by
  intro p l e s m args below meth c H locs ls hC hR hS hL hl h1 h2
  obtain ⟨hx, hb, hrt, hml, how, hts, -⟩ := id hC
  exact lv_ldc hx hb how (hts _ hw) hd (k p l e s m args below meth c H locs ls hC hR hS hL hl h1 h2)
theorem x_ldcw {g : Gp} {M : MD} {pc : Nat} {L st : List AV} {h : AH} {u : Nat × Nat} {Q : PQ} {i : Nat} {v : Int32} (hw : Cond.constant (mO M) i v ∈ lw_g) (hd : decode (mB M) pc = .ok (.ldc_w i, 3)) (k : Ex g M (pc + 3) L (vI v :: st) h u Q) : Ex g M pc L (st) h u Q := by
  intro p l e s m args below meth c H locs ls hC hR hS hL hl h1 h2
  obtain ⟨hx, hb, hrt, hml, how, hts, -⟩ := id hC
  exact lv_ldcw hx hb how (hts _ hw) hd (k p l e s m args below meth c H locs ls hC hR hS hL hl h1 h2)
theorem x_ldc2 {g : Gp} {M : MD} {pc : Nat} {L st : List AV} {h : AH} {u : Nat × Nat} {Q : PQ} {i : Nat} {v : Int64} (hw : Cond.constantLong (mO M) i v ∈ lw_g) (hd : decode (mB M) pc = .ok (.ldc2_w i, 3)) (k : Ex g M (pc + 3) L (vL v :: st) h u Q) : Ex g M pc L (st) h u Q := by
  intro p l e s m args below meth c H locs ls hC hR hS hL hl h1 h2
  obtain ⟨hx, hb, hrt, hml, how, hts, -⟩ := id hC
  exact lv_ldc2 hx hb how (hts _ hw) hd (k p l e s m args below meth c H locs ls hC hR hS hL hl h1 h2)
theorem x_ldc2d {g : Gp} {M : MD} {pc : Nat} {L st : List AV} {h : AH} {u : Nat × Nat} {Q : PQ} {i : Nat} {v : UInt64} (hw : Cond.constantDouble (mO M) i v ∈ lw_g) (hd : decode (mB M) pc = .ok (.ldc2_w i, 3)) (k : Ex g M (pc + 3) L (vD v :: st) h u Q) : Ex g M pc L (st) h u Q := by
  intro p l e s m args below meth c H locs ls hC hR hS hL hl h1 h2
  obtain ⟨hx, hb, hrt, hml, how, hts, -⟩ := id hC
  exact lv_ldc2d hx hb how (hts _ hw) hd (k p l e s m args below meth c H locs ls hC hR hS hL hl h1 h2)
theorem x_null {g : Gp} {M : MD} {pc : Nat} {L st : List AV} {h : AH} {u : Nat × Nat} {Q : PQ}  (hd : decode (mB M) pc = .ok (.aconst_null, 1)) (k : Ex g M (pc + 1) L (vR 0 :: st) h u Q) : Ex g M pc L (st) h u Q := by
  intro p l e s m args below meth c H locs ls hC hR hS hL hl h1 h2
  obtain ⟨hx, hb, hrt, hml, how, hts, -⟩ := id hC
  exact lv_null hx hb hd (k p l e s m args below meth c H locs ls hC hR hS hL hl h1 h2)
theorem x_iload_n {g : Gp} {M : MD} {pc : Nat} {L st : List AV} {h : AH} {u : Nat × Nat} {Q : PQ} {i : Nat} {k4 : Fin 4} {x : Int32} (hi : (k4 : Nat) = i) (hv : lg L i = vI x) (hd : decode (mB M) pc = .ok (.iload_n k4, 1)) (k : Ex g M (pc + 1) L (vI x :: st) h u Q) : Ex g M pc L (st) h u Q := by
  intro p l e s m args below meth c H locs ls hC hR hS hL hl h1 h2
  obtain ⟨hx, hb, hrt, hml, how, hts, -⟩ := id hC
  exact lv_iload_n hx hb hd hi (hL.at hv (by simp)) (k p l e s m args below meth c H locs ls hC hR hS hL hl h1 h2)
theorem x_iload {g : Gp} {M : MD} {pc : Nat} {L st : List AV} {h : AH} {u : Nat × Nat} {Q : PQ} {i : Nat} {x : Int32} (hv : lg L i = vI x) (hd : decode (mB M) pc = .ok (.iload i, 2)) (k : Ex g M (pc + 2) L (vI x :: st) h u Q) : Ex g M pc L (st) h u Q := by
  intro p l e s m args below meth c H locs ls hC hR hS hL hl h1 h2
  obtain ⟨hx, hb, hrt, hml, how, hts, -⟩ := id hC
  exact lv_iload hx hb hd (hL.at hv (by simp)) (k p l e s m args below meth c H locs ls hC hR hS hL hl h1 h2)
theorem x_istore_n {g : Gp} {M : MD} {pc : Nat} {L st : List AV} {h : AH} {u : Nat × Nat} {Q : PQ} {i : Nat} {k4 : Fin 4} {x : Int32} (hi : (k4 : Nat) = i) (hi2 : i < L.length) (hd : decode (mB M) pc = .ok (.istore_n k4, 1)) (k : Ex g M (pc + 1) (st1 L i (vI x)) (st) h u Q) : Ex g M pc L (vI x :: st) h u Q := by
  intro p l e s m args below meth c H locs ls hC hR hS hL hl h1 h2
  obtain ⟨hx, hb, hrt, hml, how, hts, -⟩ := id hC
  exact lv_istore_n hx hb hd hi hL.has hi2 rfl (fun ls2 hl2 => (k p l e s m args below meth c H locs ls2 hC hR hS (LR.set1 rfl hi2 rfl hl2) ((st1_len L i _).trans hl) h1 h2))
theorem x_istore {g : Gp} {M : MD} {pc : Nat} {L st : List AV} {h : AH} {u : Nat × Nat} {Q : PQ} {i : Nat} {x : Int32} (hi2 : i < L.length) (hd : decode (mB M) pc = .ok (.istore i, 2)) (k : Ex g M (pc + 2) (st1 L i (vI x)) (st) h u Q) : Ex g M pc L (vI x :: st) h u Q := by
  intro p l e s m args below meth c H locs ls hC hR hS hL hl h1 h2
  obtain ⟨hx, hb, hrt, hml, how, hts, -⟩ := id hC
  exact lv_istore hx hb hd hL.has hi2 rfl (fun ls2 hl2 => (k p l e s m args below meth c H locs ls2 hC hR hS (LR.set1 rfl hi2 rfl hl2) ((st1_len L i _).trans hl) h1 h2))
theorem x_lload_n {g : Gp} {M : MD} {pc : Nat} {L st : List AV} {h : AH} {u : Nat × Nat} {Q : PQ} {i : Nat} {k4 : Fin 4} {x : Int64} (hi : (k4 : Nat) = i) (hv : lg L i = vL x) (hd : decode (mB M) pc = .ok (.lload_n k4, 1)) (k : Ex g M (pc + 1) L (vL x :: st) h u Q) : Ex g M pc L (st) h u Q := by
  intro p l e s m args below meth c H locs ls hC hR hS hL hl h1 h2
  obtain ⟨hx, hb, hrt, hml, how, hts, -⟩ := id hC
  exact lv_lload_n hx hb hd hi (hL.at hv (by simp)) (k p l e s m args below meth c H locs ls hC hR hS hL hl h1 h2)
theorem x_lload {g : Gp} {M : MD} {pc : Nat} {L st : List AV} {h : AH} {u : Nat × Nat} {Q : PQ} {i : Nat} {x : Int64} (hv : lg L i = vL x) (hd : decode (mB M) pc = .ok (.lload i, 2)) (k : Ex g M (pc + 2) L (vL x :: st) h u Q) : Ex g M pc L (st) h u Q := by
  intro p l e s m args below meth c H locs ls hC hR hS hL hl h1 h2
  obtain ⟨hx, hb, hrt, hml, how, hts, -⟩ := id hC
  exact lv_lload hx hb hd (hL.at hv (by simp)) (k p l e s m args below meth c H locs ls hC hR hS hL hl h1 h2)
theorem x_lstore_n {g : Gp} {M : MD} {pc : Nat} {L st : List AV} {h : AH} {u : Nat × Nat} {Q : PQ} {i : Nat} {k4 : Fin 4} {x : Int64} (hi : (k4 : Nat) = i) (hi2 : i + 1 < L.length) (hd : decode (mB M) pc = .ok (.lstore_n k4, 1)) (k : Ex g M (pc + 1) (st2 L i (vL x)) (st) h u Q) : Ex g M pc L (vL x :: st) h u Q := by
  intro p l e s m args below meth c H locs ls hC hR hS hL hl h1 h2
  obtain ⟨hx, hb, hrt, hml, how, hts, -⟩ := id hC
  exact lv_lstore_n hx hb hd hi hL.has hi2 rfl (fun ls2 hl2 => (k p l e s m args below meth c H locs ls2 hC hR hS (LR.set2 rfl hi2 rfl hl2) ((st2_len L i _).trans hl) h1 h2))
theorem x_lstore {g : Gp} {M : MD} {pc : Nat} {L st : List AV} {h : AH} {u : Nat × Nat} {Q : PQ} {i : Nat} {x : Int64} (hi2 : i + 1 < L.length) (hd : decode (mB M) pc = .ok (.lstore i, 2)) (k : Ex g M (pc + 2) (st2 L i (vL x)) (st) h u Q) : Ex g M pc L (vL x :: st) h u Q := by
  intro p l e s m args below meth c H locs ls hC hR hS hL hl h1 h2
  obtain ⟨hx, hb, hrt, hml, how, hts, -⟩ := id hC
  exact lv_lstore hx hb hd hL.has hi2 rfl (fun ls2 hl2 => (k p l e s m args below meth c H locs ls2 hC hR hS (LR.set2 rfl hi2 rfl hl2) ((st2_len L i _).trans hl) h1 h2))
theorem x_dload_n {g : Gp} {M : MD} {pc : Nat} {L st : List AV} {h : AH} {u : Nat × Nat} {Q : PQ} {i : Nat} {k4 : Fin 4} {x : UInt64} (hi : (k4 : Nat) = i) (hv : lg L i = vD x) (hd : decode (mB M) pc = .ok (.dload_n k4, 1)) (k : Ex g M (pc + 1) L (vD x :: st) h u Q) : Ex g M pc L (st) h u Q := by
  intro p l e s m args below meth c H locs ls hC hR hS hL hl h1 h2
  obtain ⟨hx, hb, hrt, hml, how, hts, -⟩ := id hC
  exact lv_dload_n hx hb hd hi (hL.at hv (by simp)) (k p l e s m args below meth c H locs ls hC hR hS hL hl h1 h2)
theorem x_dload {g : Gp} {M : MD} {pc : Nat} {L st : List AV} {h : AH} {u : Nat × Nat} {Q : PQ} {i : Nat} {x : UInt64} (hv : lg L i = vD x) (hd : decode (mB M) pc = .ok (.dload i, 2)) (k : Ex g M (pc + 2) L (vD x :: st) h u Q) : Ex g M pc L (st) h u Q := by
  intro p l e s m args below meth c H locs ls hC hR hS hL hl h1 h2
  obtain ⟨hx, hb, hrt, hml, how, hts, -⟩ := id hC
  exact lv_dload hx hb hd (hL.at hv (by simp)) (k p l e s m args below meth c H locs ls hC hR hS hL hl h1 h2)
theorem x_dstore_n {g : Gp} {M : MD} {pc : Nat} {L st : List AV} {h : AH} {u : Nat × Nat} {Q : PQ} {i : Nat} {k4 : Fin 4} {x : UInt64} (hi : (k4 : Nat) = i) (hi2 : i + 1 < L.length) (hd : decode (mB M) pc = .ok (.dstore_n k4, 1)) (k : Ex g M (pc + 1) (st2 L i (vD x)) (st) h u Q) : Ex g M pc L (vD x :: st) h u Q := by
  intro p l e s m args below meth c H locs ls hC hR hS hL hl h1 h2
  obtain ⟨hx, hb, hrt, hml, how, hts, -⟩ := id hC
  exact lv_dstore_n hx hb hd hi hL.has hi2 rfl (fun ls2 hl2 => (k p l e s m args below meth c H locs ls2 hC hR hS (LR.set2 rfl hi2 rfl hl2) ((st2_len L i _).trans hl) h1 h2))
theorem x_dstore {g : Gp} {M : MD} {pc : Nat} {L st : List AV} {h : AH} {u : Nat × Nat} {Q : PQ} {i : Nat} {x : UInt64} (hi2 : i + 1 < L.length) (hd : decode (mB M) pc = .ok (.dstore i, 2)) (k : Ex g M (pc + 2) (st2 L i (vD x)) (st) h u Q) : Ex g M pc L (vD x :: st) h u Q := by
  intro p l e s m args below meth c H locs ls hC hR hS hL hl h1 h2
  obtain ⟨hx, hb, hrt, hml, how, hts, -⟩ := id hC
  exact lv_dstore hx hb hd hL.has hi2 rfl (fun ls2 hl2 => (k p l e s m args below meth c H locs ls2 hC hR hS (LR.set2 rfl hi2 rfl hl2) ((st2_len L i _).trans hl) h1 h2))
theorem x_aload_n {g : Gp} {M : MD} {pc : Nat} {L st : List AV} {h : AH} {u : Nat × Nat} {Q : PQ} {i : Nat} {k4 : Fin 4} {x : Nat} (hi : (k4 : Nat) = i) (hv : lg L i = vR x) (hd : decode (mB M) pc = .ok (.aload_n k4, 1)) (k : Ex g M (pc + 1) L (vR x :: st) h u Q) : Ex g M pc L (st) h u Q := by
  intro p l e s m args below meth c H locs ls hC hR hS hL hl h1 h2
  obtain ⟨hx, hb, hrt, hml, how, hts, -⟩ := id hC
  have k := (k p l e s m args below meth c H locs ls hC hR hS hL hl h1 h2)
  have ha := hL.at hv (by simp)
  simp only [List.map_cons, tv] at k ha
  rcases rv_or g x with hz | ⟨a, hz⟩
  · rw [hz] at k ha; exact lv_aload_nN hx hb hd hi ha k
  · rw [hz] at k ha; exact lv_aload_n hx hb hd hi ha k
theorem x_astore_n {g : Gp} {M : MD} {pc : Nat} {L st : List AV} {h : AH} {u : Nat × Nat} {Q : PQ} {i : Nat} {k4 : Fin 4} {x : Nat} (hi : (k4 : Nat) = i) (hi2 : i < L.length) (hd : decode (mB M) pc = .ok (.astore_n k4, 1)) (k : Ex g M (pc + 1) (st1 L i (vR x)) (st) h u Q) : Ex g M pc L (vR x :: st) h u Q := by
  intro p l e s m args below meth c H locs ls hC hR hS hL hl h1 h2
  obtain ⟨hx, hb, hrt, hml, how, hts, -⟩ := id hC
  simp only [List.map_cons, tv]
  rcases rv_or g x with hz | ⟨a, hz⟩
  · rw [hz]; exact lv_astore_nN hx hb hd hi hL.has hi2 rfl (fun ls2 hl2 => (k p l e s m args below meth c H locs ls2 hC hR hS (LR.set1 rfl hi2 hz.symm hl2) ((st1_len L i _).trans hl) h1 h2))
  · rw [hz]; exact lv_astore_n hx hb hd hi hL.has hi2 rfl (fun ls2 hl2 => (k p l e s m args below meth c H locs ls2 hC hR hS (LR.set1 rfl hi2 hz.symm hl2) ((st1_len L i _).trans hl) h1 h2))
theorem x_aload {g : Gp} {M : MD} {pc : Nat} {L st : List AV} {h : AH} {u : Nat × Nat} {Q : PQ} {i : Nat} {x : Nat} (hv : lg L i = vR x) (hd : decode (mB M) pc = .ok (.aload i, 2)) (k : Ex g M (pc + 2) L (vR x :: st) h u Q) : Ex g M pc L (st) h u Q := by
  intro p l e s m args below meth c H locs ls hC hR hS hL hl h1 h2
  obtain ⟨hx, hb, hrt, hml, how, hts, -⟩ := id hC
  have k := (k p l e s m args below meth c H locs ls hC hR hS hL hl h1 h2)
  have ha := hL.at hv (by simp)
  simp only [List.map_cons, tv] at k ha
  rcases rv_or g x with hz | ⟨a, hz⟩
  · rw [hz] at k ha; exact lv_aloadN hx hb hd ha k
  · rw [hz] at k ha; exact lv_aload hx hb hd ha k
theorem x_astore {g : Gp} {M : MD} {pc : Nat} {L st : List AV} {h : AH} {u : Nat × Nat} {Q : PQ} {i : Nat} {x : Nat} (hi2 : i < L.length) (hd : decode (mB M) pc = .ok (.astore i, 2)) (k : Ex g M (pc + 2) (st1 L i (vR x)) (st) h u Q) : Ex g M pc L (vR x :: st) h u Q := by
  intro p l e s m args below meth c H locs ls hC hR hS hL hl h1 h2
  obtain ⟨hx, hb, hrt, hml, how, hts, -⟩ := id hC
  simp only [List.map_cons, tv]
  rcases rv_or g x with hz | ⟨a, hz⟩
  · rw [hz]; exact lv_astoreN hx hb hd hL.has hi2 rfl (fun ls2 hl2 => (k p l e s m args below meth c H locs ls2 hC hR hS (LR.set1 rfl hi2 hz.symm hl2) ((st1_len L i _).trans hl) h1 h2))
  · rw [hz]; exact lv_astore hx hb hd hL.has hi2 rfl (fun ls2 hl2 => (k p l e s m args below meth c H locs ls2 hC hR hS (LR.set1 rfl hi2 hz.symm hl2) ((st1_len L i _).trans hl) h1 h2))
theorem x_iinc {g : Gp} {M : MD} {pc : Nat} {L st : List AV} {h : AH} {u : Nat × Nat} {Q : PQ} {i : Nat} {n : Int} {x w : Int32} (hv : lg L i = vI x) (hw : Int32.ofInt n = w) (hd : decode (mB M) pc = .ok (.iinc i n, 3)) (k : Ex g M (pc + 3) (st1 L i (vI (x + w))) (st) h u Q) : Ex g M pc L (st) h u Q := by
  intro p l e s m args below meth c H locs ls hC hR hS hL hl h1 h2
  obtain ⟨hx, hb, hrt, hml, how, hts, -⟩ := id hC
  have hu : lg L i ≠ vU := by rw [hv]; simp
  have hmem : (i, Value.int x) ∈ lvp g L := lvp_mem.mpr ⟨lg_lt hu, hu, by rw [hv]; rfl⟩
  obtain ⟨k9, hk9⟩ := List.getElem?_of_mem hmem
  exact lv_iinc (v := x + w) hx hb hd hL.has hk9 (by rw [hw]) (lg_lt hu) rfl (fun ls2 hl2 => (k p l e s m args below meth c H locs ls2 hC hR hS (LR.set1 rfl (lg_lt hu) rfl hl2) ((st1_len L i _).trans hl) h1 h2))
theorem x_iadd {g : Gp} {M : MD} {pc : Nat} {L st : List AV} {h : AH} {u : Nat × Nat} {Q : PQ} {x y : Int32} (hd : decode (mB M) pc = .ok (.iadd, 1)) (k : Ex g M (pc + 1) L (vI (x + y) :: st) h u Q) : Ex g M pc L (vI y :: vI x :: st) h u Q := by
  intro p l e s m args below meth c H locs ls hC hR hS hL hl h1 h2
  obtain ⟨hx, hb, hrt, hml, how, hts, -⟩ := id hC
  exact lv_iadd hx hb hd (k p l e s m args below meth c H locs ls hC hR hS hL hl h1 h2)
theorem x_isub {g : Gp} {M : MD} {pc : Nat} {L st : List AV} {h : AH} {u : Nat × Nat} {Q : PQ} {x y : Int32} (hd : decode (mB M) pc = .ok (.isub, 1)) (k : Ex g M (pc + 1) L (vI (x - y) :: st) h u Q) : Ex g M pc L (vI y :: vI x :: st) h u Q := by
  intro p l e s m args below meth c H locs ls hC hR hS hL hl h1 h2
  obtain ⟨hx, hb, hrt, hml, how, hts, -⟩ := id hC
  exact lv_isub hx hb hd (k p l e s m args below meth c H locs ls hC hR hS hL hl h1 h2)
theorem x_imul {g : Gp} {M : MD} {pc : Nat} {L st : List AV} {h : AH} {u : Nat × Nat} {Q : PQ} {x y : Int32} (hd : decode (mB M) pc = .ok (.imul, 1)) (k : Ex g M (pc + 1) L (vI (x * y) :: st) h u Q) : Ex g M pc L (vI y :: vI x :: st) h u Q := by
  intro p l e s m args below meth c H locs ls hC hR hS hL hl h1 h2
  obtain ⟨hx, hb, hrt, hml, how, hts, -⟩ := id hC
  exact lv_imul hx hb hd (k p l e s m args below meth c H locs ls hC hR hS hL hl h1 h2)
theorem x_iand {g : Gp} {M : MD} {pc : Nat} {L st : List AV} {h : AH} {u : Nat × Nat} {Q : PQ} {x y : Int32} (hd : decode (mB M) pc = .ok (.iand, 1)) (k : Ex g M (pc + 1) L (vI (x &&& y) :: st) h u Q) : Ex g M pc L (vI y :: vI x :: st) h u Q := by
  intro p l e s m args below meth c H locs ls hC hR hS hL hl h1 h2
  obtain ⟨hx, hb, hrt, hml, how, hts, -⟩ := id hC
  exact lv_iand hx hb hd (k p l e s m args below meth c H locs ls hC hR hS hL hl h1 h2)
theorem x_ior {g : Gp} {M : MD} {pc : Nat} {L st : List AV} {h : AH} {u : Nat × Nat} {Q : PQ} {x y : Int32} (hd : decode (mB M) pc = .ok (.ior, 1)) (k : Ex g M (pc + 1) L (vI (x ||| y) :: st) h u Q) : Ex g M pc L (vI y :: vI x :: st) h u Q := by
  intro p l e s m args below meth c H locs ls hC hR hS hL hl h1 h2
  obtain ⟨hx, hb, hrt, hml, how, hts, -⟩ := id hC
  exact lv_ior hx hb hd (k p l e s m args below meth c H locs ls hC hR hS hL hl h1 h2)
theorem x_ixor {g : Gp} {M : MD} {pc : Nat} {L st : List AV} {h : AH} {u : Nat × Nat} {Q : PQ} {x y : Int32} (hd : decode (mB M) pc = .ok (.ixor, 1)) (k : Ex g M (pc + 1) L (vI (x ^^^ y) :: st) h u Q) : Ex g M pc L (vI y :: vI x :: st) h u Q := by
  intro p l e s m args below meth c H locs ls hC hR hS hL hl h1 h2
  obtain ⟨hx, hb, hrt, hml, how, hts, -⟩ := id hC
  exact lv_ixor hx hb hd (k p l e s m args below meth c H locs ls hC hR hS hL hl h1 h2)
theorem x_ishl {g : Gp} {M : MD} {pc : Nat} {L st : List AV} {h : AH} {u : Nat × Nat} {Q : PQ} {x y : Int32} (hd : decode (mB M) pc = .ok (.ishl, 1)) (k : Ex g M (pc + 1) L (vI (x <<< (y &&& 31)) :: st) h u Q) : Ex g M pc L (vI y :: vI x :: st) h u Q := by
  intro p l e s m args below meth c H locs ls hC hR hS hL hl h1 h2
  obtain ⟨hx, hb, hrt, hml, how, hts, -⟩ := id hC
  exact lv_ishl hx hb hd (k p l e s m args below meth c H locs ls hC hR hS hL hl h1 h2)
theorem x_ishr {g : Gp} {M : MD} {pc : Nat} {L st : List AV} {h : AH} {u : Nat × Nat} {Q : PQ} {x y : Int32} (hd : decode (mB M) pc = .ok (.ishr, 1)) (k : Ex g M (pc + 1) L (vI (x >>> (y &&& 31)) :: st) h u Q) : Ex g M pc L (vI y :: vI x :: st) h u Q := by
  intro p l e s m args below meth c H locs ls hC hR hS hL hl h1 h2
  obtain ⟨hx, hb, hrt, hml, how, hts, -⟩ := id hC
  exact lv_ishr hx hb hd (k p l e s m args below meth c H locs ls hC hR hS hL hl h1 h2)
theorem x_iushr {g : Gp} {M : MD} {pc : Nat} {L st : List AV} {h : AH} {u : Nat × Nat} {Q : PQ} {x y : Int32} (hd : decode (mB M) pc = .ok (.iushr, 1)) (k : Ex g M (pc + 1) L (vI ((x.toUInt32 >>> (y.toUInt32 &&& Int32.toUInt32 31)).toInt32) :: st) h u Q) : Ex g M pc L (vI y :: vI x :: st) h u Q := by
  intro p l e s m args below meth c H locs ls hC hR hS hL hl h1 h2
  obtain ⟨hx, hb, hrt, hml, how, hts, -⟩ := id hC
  exact lv_iushr hx hb hd rfl (k p l e s m args below meth c H locs ls hC hR hS hL hl h1 h2)
theorem x_idiv {g : Gp} {M : MD} {pc : Nat} {L st : List AV} {h : AH} {u : Nat × Nat} {Q : PQ} {x y : Int32} (hne : ¬ y = 0) (hd : decode (mB M) pc = .ok (.idiv, 1)) (k : Ex g M (pc + 1) L (vI (x / y) :: st) h u Q) : Ex g M pc L (vI y :: vI x :: st) h u Q := by
  intro p l e s m args below meth c H locs ls hC hR hS hL hl h1 h2
  obtain ⟨hx, hb, hrt, hml, how, hts, -⟩ := id hC
  exact lv_idiv hx hb hd hne (k p l e s m args below meth c H locs ls hC hR hS hL hl h1 h2)
theorem x_irem {g : Gp} {M : MD} {pc : Nat} {L st : List AV} {h : AH} {u : Nat × Nat} {Q : PQ} {x y : Int32} (hne : ¬ y = 0) (hd : decode (mB M) pc = .ok (.irem, 1)) (k : Ex g M (pc + 1) L (vI (x - x / y * y) :: st) h u Q) : Ex g M pc L (vI y :: vI x :: st) h u Q := by
  intro p l e s m args below meth c H locs ls hC hR hS hL hl h1 h2
  obtain ⟨hx, hb, hrt, hml, how, hts, -⟩ := id hC
  exact lv_irem hx hb hd hne (k p l e s m args below meth c H locs ls hC hR hS hL hl h1 h2)
theorem x_ladd {g : Gp} {M : MD} {pc : Nat} {L st : List AV} {h : AH} {u : Nat × Nat} {Q : PQ} {x y : Int64} (hd : decode (mB M) pc = .ok (.ladd, 1)) (k : Ex g M (pc + 1) L (vL (x + y) :: st) h u Q) : Ex g M pc L (vL y :: vL x :: st) h u Q := by
  intro p l e s m args below meth c H locs ls hC hR hS hL hl h1 h2
  obtain ⟨hx, hb, hrt, hml, how, hts, -⟩ := id hC
  exact lv_ladd hx hb hd (k p l e s m args below meth c H locs ls hC hR hS hL hl h1 h2)
theorem x_lsub {g : Gp} {M : MD} {pc : Nat} {L st : List AV} {h : AH} {u : Nat × Nat} {Q : PQ} {x y : Int64} (hd : decode (mB M) pc = .ok (.lsub, 1)) (k : Ex g M (pc + 1) L (vL (x - y) :: st) h u Q) : Ex g M pc L (vL y :: vL x :: st) h u Q := by
  intro p l e s m args below meth c H locs ls hC hR hS hL hl h1 h2
  obtain ⟨hx, hb, hrt, hml, how, hts, -⟩ := id hC
  exact lv_lsub hx hb hd (k p l e s m args below meth c H locs ls hC hR hS hL hl h1 h2)
theorem x_lmul {g : Gp} {M : MD} {pc : Nat} {L st : List AV} {h : AH} {u : Nat × Nat} {Q : PQ} {x y : Int64} (hd : decode (mB M) pc = .ok (.lmul, 1)) (k : Ex g M (pc + 1) L (vL (x * y) :: st) h u Q) : Ex g M pc L (vL y :: vL x :: st) h u Q := by
  intro p l e s m args below meth c H locs ls hC hR hS hL hl h1 h2
  obtain ⟨hx, hb, hrt, hml, how, hts, -⟩ := id hC
  exact lv_lmul hx hb hd (k p l e s m args below meth c H locs ls hC hR hS hL hl h1 h2)
theorem x_lor {g : Gp} {M : MD} {pc : Nat} {L st : List AV} {h : AH} {u : Nat × Nat} {Q : PQ} {x y : Int64} (hd : decode (mB M) pc = .ok (.lor, 1)) (k : Ex g M (pc + 1) L (vL (x ||| y) :: st) h u Q) : Ex g M pc L (vL y :: vL x :: st) h u Q := by
  intro p l e s m args below meth c H locs ls hC hR hS hL hl h1 h2
  obtain ⟨hx, hb, hrt, hml, how, hts, -⟩ := id hC
  exact lv_lor hx hb hd (k p l e s m args below meth c H locs ls hC hR hS hL hl h1 h2)
theorem x_land {g : Gp} {M : MD} {pc : Nat} {L st : List AV} {h : AH} {u : Nat × Nat} {Q : PQ} {x y : Int64} (hd : decode (mB M) pc = .ok (.land, 1)) (k : Ex g M (pc + 1) L (vL (x &&& y) :: st) h u Q) : Ex g M pc L (vL y :: vL x :: st) h u Q := by
  intro p l e s m args below meth c H locs ls hC hR hS hL hl h1 h2
  obtain ⟨hx, hb, hrt, hml, how, hts, -⟩ := id hC
  exact lv_land hx hb hd (k p l e s m args below meth c H locs ls hC hR hS hL hl h1 h2)
theorem x_lxor {g : Gp} {M : MD} {pc : Nat} {L st : List AV} {h : AH} {u : Nat × Nat} {Q : PQ} {x y : Int64} (hd : decode (mB M) pc = .ok (.lxor, 1)) (k : Ex g M (pc + 1) L (vL (x ^^^ y) :: st) h u Q) : Ex g M pc L (vL y :: vL x :: st) h u Q := by
  intro p l e s m args below meth c H locs ls hC hR hS hL hl h1 h2
  obtain ⟨hx, hb, hrt, hml, how, hts, -⟩ := id hC
  exact lv_lxor hx hb hd (k p l e s m args below meth c H locs ls hC hR hS hL hl h1 h2)
theorem x_ldiv {g : Gp} {M : MD} {pc : Nat} {L st : List AV} {h : AH} {u : Nat × Nat} {Q : PQ} {x y : Int64} (hne : ¬ y = 0) (hd : decode (mB M) pc = .ok (.ldiv, 1)) (k : Ex g M (pc + 1) L (vL (x / y) :: st) h u Q) : Ex g M pc L (vL y :: vL x :: st) h u Q := by
  intro p l e s m args below meth c H locs ls hC hR hS hL hl h1 h2
  obtain ⟨hx, hb, hrt, hml, how, hts, -⟩ := id hC
  exact lv_ldiv hx hb hd hne (k p l e s m args below meth c H locs ls hC hR hS hL hl h1 h2)
theorem x_lrem {g : Gp} {M : MD} {pc : Nat} {L st : List AV} {h : AH} {u : Nat × Nat} {Q : PQ} {x y : Int64} (hne : ¬ y = 0) (hd : decode (mB M) pc = .ok (.lrem, 1)) (k : Ex g M (pc + 1) L (vL (x - x / y * y) :: st) h u Q) : Ex g M pc L (vL y :: vL x :: st) h u Q := by
  intro p l e s m args below meth c H locs ls hC hR hS hL hl h1 h2
  obtain ⟨hx, hb, hrt, hml, how, hts, -⟩ := id hC
  exact lv_lrem hx hb hd hne (k p l e s m args below meth c H locs ls hC hR hS hL hl h1 h2)
theorem x_lushr {g : Gp} {M : MD} {pc : Nat} {L st : List AV} {h : AH} {u : Nat × Nat} {Q : PQ} {x : Int64} {y : Int32} (hd : decode (mB M) pc = .ok (.lushr, 1)) (k : Ex g M (pc + 1) L (vL ((x.toUInt64 >>> (y.toInt64.toUInt64 &&& Int64.toUInt64 63)).toInt64) :: st) h u Q) : Ex g M pc L (vI y :: vL x :: st) h u Q := by
  intro p l e s m args below meth c H locs ls hC hR hS hL hl h1 h2
  obtain ⟨hx, hb, hrt, hml, how, hts, -⟩ := id hC
  exact lv_lushr hx hb hd rfl (k p l e s m args below meth c H locs ls hC hR hS hL hl h1 h2)
theorem x_lshl {g : Gp} {M : MD} {pc : Nat} {L st : List AV} {h : AH} {u : Nat × Nat} {Q : PQ} {x : Int64} {y : Int32} (hd : decode (mB M) pc = .ok (.lshl, 1)) (k : Ex g M (pc + 1) L (vL (x <<< (y.toInt64 &&& 63)) :: st) h u Q) : Ex g M pc L (vI y :: vL x :: st) h u Q := by
  intro p l e s m args below meth c H locs ls hC hR hS hL hl h1 h2
  obtain ⟨hx, hb, hrt, hml, how, hts, -⟩ := id hC
  exact lv_lshl hx hb hd rfl (k p l e s m args below meth c H locs ls hC hR hS hL hl h1 h2)
theorem x_lcmp {g : Gp} {M : MD} {pc : Nat} {L st : List AV} {h : AH} {u : Nat × Nat} {Q : PQ} {x y : Int64} (hd : decode (mB M) pc = .ok (.lcmp, 1)) (k : Ex g M (pc + 1) L (vI (lg_cmp x y) :: st) h u Q) : Ex g M pc L (vL y :: vL x :: st) h u Q := by
  intro p l e s m args below meth c H locs ls hC hR hS hL hl h1 h2
  obtain ⟨hx, hb, hrt, hml, how, hts, -⟩ := id hC
  exact W.lcmp hx hb hd (k p l e s m args below meth c H locs ls hC hR hS hL hl h1 h2)
theorem x_dcmp {g : Gp} {M : MD} {pc : Nat} {L st : List AV} {h : AH} {u : Nat × Nat} {Q : PQ} {x y : UInt64} {o : CmpOp} (hd : decode (mB M) pc = .ok (.dcmp o, 1)) (k : Ex g M (pc + 1) L (vI (Op.cmpValue (FP.dcmp x y) o) :: st) h u Q) : Ex g M pc L (vD y :: vD x :: st) h u Q := by
  intro p l e s m args below meth c H locs ls hC hR hS hL hl h1 h2
  obtain ⟨hx, hb, hrt, hml, how, hts, -⟩ := id hC
  exact lv_dcmp hx hb hd (k p l e s m args below meth c H locs ls hC hR hS hL hl h1 h2)
theorem x_ddiv {g : Gp} {M : MD} {pc : Nat} {L st : List AV} {h : AH} {u : Nat × Nat} {Q : PQ} {x y : UInt64} (hne : vf_n64 (FP.ddiv x y)) (hd : decode (mB M) pc = .ok (.ddiv, 1)) (k : Ex g M (pc + 1) L (vD (FP.ddiv x y) :: st) h u Q) : Ex g M pc L (vD y :: vD x :: st) h u Q := by
  intro p l e s m args below meth c H locs ls hC hR hS hL hl h1 h2
  obtain ⟨hx, hb, hrt, hml, how, hts, -⟩ := id hC
  exact lv_ddiv hx hb hd hne (k p l e s m args below meth c H locs ls hC hR hS hL hl h1 h2)
theorem x_i2l {g : Gp} {M : MD} {pc : Nat} {L st : List AV} {h : AH} {u : Nat × Nat} {Q : PQ} {x : Int32} (hd : decode (mB M) pc = .ok (.i2l, 1)) (k : Ex g M (pc + 1) L (vL x.toInt64 :: st) h u Q) : Ex g M pc L (vI x :: st) h u Q := by
  intro p l e s m args below meth c H locs ls hC hR hS hL hl h1 h2
  obtain ⟨hx, hb, hrt, hml, how, hts, -⟩ := id hC
  exact lv_i2l hx hb hd rfl (k p l e s m args below meth c H locs ls hC hR hS hL hl h1 h2)
theorem x_l2i {g : Gp} {M : MD} {pc : Nat} {L st : List AV} {h : AH} {u : Nat × Nat} {Q : PQ} {x : Int64} (hd : decode (mB M) pc = .ok (.l2i, 1)) (k : Ex g M (pc + 1) L (vI x.toInt32 :: st) h u Q) : Ex g M pc L (vL x :: st) h u Q := by
  intro p l e s m args below meth c H locs ls hC hR hS hL hl h1 h2
  obtain ⟨hx, hb, hrt, hml, how, hts, -⟩ := id hC
  exact lv_l2i hx hb hd rfl (k p l e s m args below meth c H locs ls hC hR hS hL hl h1 h2)
theorem x_i2d {g : Gp} {M : MD} {pc : Nat} {L st : List AV} {h : AH} {u : Nat × Nat} {Q : PQ} {x : Int32} (hd : decode (mB M) pc = .ok (.i2d, 1)) (k : Ex g M (pc + 1) L (vD (FP.i2d x) :: st) h u Q) : Ex g M pc L (vI x :: st) h u Q := by
  intro p l e s m args below meth c H locs ls hC hR hS hL hl h1 h2
  obtain ⟨hx, hb, hrt, hml, how, hts, -⟩ := id hC
  exact lv_i2d hx hb hd (k p l e s m args below meth c H locs ls hC hR hS hL hl h1 h2)
theorem x_dup {g : Gp} {M : MD} {pc : Nat} {L st : List AV} {h : AH} {u : Nat × Nat} {Q : PQ} {v : AV} (hv : (tv g v).category = 1) (hd : decode (mB M) pc = .ok (.dup, 1)) (k : Ex g M (pc + 1) L (v :: v :: st) h u Q) : Ex g M pc L (v :: st) h u Q := by
  intro p l e s m args below meth c H locs ls hC hR hS hL hl h1 h2
  obtain ⟨hx, hb, hrt, hml, how, hts, -⟩ := id hC
  exact lv_dup hx hb hd hv (k p l e s m args below meth c H locs ls hC hR hS hL hl h1 h2)
theorem x_pop {g : Gp} {M : MD} {pc : Nat} {L st : List AV} {h : AH} {u : Nat × Nat} {Q : PQ} {v : AV} (hv : (tv g v).category = 1) (hd : decode (mB M) pc = .ok (.pop, 1)) (k : Ex g M (pc + 1) L (st) h u Q) : Ex g M pc L (v :: st) h u Q := by
  intro p l e s m args below meth c H locs ls hC hR hS hL hl h1 h2
  obtain ⟨hx, hb, hrt, hml, how, hts, -⟩ := id hC
  exact lv_pop hx hb hd hv (k p l e s m args below meth c H locs ls hC hR hS hL hl h1 h2)
theorem x_dup_x1 {g : Gp} {M : MD} {pc : Nat} {L st : List AV} {h : AH} {u : Nat × Nat} {Q : PQ} {v w : AV} (hv : (tv g v).category = 1) (hw : (tv g w).category = 1) (hd : decode (mB M) pc = .ok (.dup_x1, 1)) (k : Ex g M (pc + 1) L (v :: w :: v :: st) h u Q) : Ex g M pc L (v :: w :: st) h u Q := by
  intro p l e s m args below meth c H locs ls hC hR hS hL hl h1 h2
  obtain ⟨hx, hb, hrt, hml, how, hts, -⟩ := id hC
  exact lv_dup_x1 hx hb hd hv hw (k p l e s m args below meth c H locs ls hC hR hS hL hl h1 h2)
theorem x_dup_x2 {g : Gp} {M : MD} {pc : Nat} {L st : List AV} {h : AH} {u : Nat × Nat} {Q : PQ} {v w z : AV} (hv : (tv g v).category = 1) (hw : (tv g w).category = 1) (hz : (tv g z).category = 1) (hd : decode (mB M) pc = .ok (.dup_x2, 1)) (k : Ex g M (pc + 1) L (v :: w :: z :: v :: st) h u Q) : Ex g M pc L (v :: w :: z :: st) h u Q := by
  intro p l e s m args below meth c H locs ls hC hR hS hL hl h1 h2
  obtain ⟨hx, hb, hrt, hml, how, hts, -⟩ := id hC
  exact lv_dup_x2 hx hb hd hv hw hz (k p l e s m args below meth c H locs ls hC hR hS hL hl h1 h2)
theorem x_dup2 {g : Gp} {M : MD} {pc : Nat} {L st : List AV} {h : AH} {u : Nat × Nat} {Q : PQ} {v w : AV} (hv : (tv g v).category = 1) (hw : (tv g w).category = 1) (hd : decode (mB M) pc = .ok (.dup2, 1)) (k : Ex g M (pc + 1) L (v :: w :: v :: w :: st) h u Q) : Ex g M pc L (v :: w :: st) h u Q := by
  intro p l e s m args below meth c H locs ls hC hR hS hL hl h1 h2
  obtain ⟨hx, hb, hrt, hml, how, hts, -⟩ := id hC
  exact lv_dup2_11 hx hb hd hv hw (k p l e s m args below meth c H locs ls hC hR hS hL hl h1 h2)
theorem x_goto {g : Gp} {M : MD} {pc : Nat} {L st : List AV} {h : AH} {u : Nat × Nat} {Q : PQ} {off : Int} {t : Nat} (ht : (pc : Int) + off = (t : Int)) (hd : decode (mB M) pc = .ok (.goto off, 3)) (k : Ex g M t L (st) h u Q) : Ex g M pc L (st) h u Q := by
  intro p l e s m args below meth c H locs ls hC hR hS hL hl h1 h2
  obtain ⟨hx, hb, hrt, hml, how, hts, -⟩ := id hC
  exact lv_goto hx hb hd ht (k p l e s m args below meth c H locs ls hC hR hS hL hl h1 h2)
theorem x_if_eq {g : Gp} {M : MD} {pc : Nat} {L st : List AV} {h : AH} {u : Nat × Nat} {Q : PQ} {x : Int32} {off : Int} {t : Nat} (ht : (pc : Int) + off = (t : Int)) (hd : decode (mB M) pc = .ok (.ifCond .eq off, 3)) (kt : x = 0 → Ex g M t L st h u Q) (kf : ¬ x = 0 → Ex g M (pc + 3) L st h u Q) : Ex g M pc L (vI x :: st) h u Q := by
  intro p l e s m args below meth c H locs ls hC hR hS hL hl h1 h2
  obtain ⟨hx, hb, -⟩ := id hC
  exact lv_if_eq hx hb hd ht (fun hc => kt hc p l e s m args below meth c H locs ls hC hR hS hL hl h1 h2) (fun hc => kf hc p l e s m args below meth c H locs ls hC hR hS hL hl h1 h2)
theorem x_icmp_eq {g : Gp} {M : MD} {pc : Nat} {L st : List AV} {h : AH} {u : Nat × Nat} {Q : PQ} {x y : Int32} {off : Int} {t : Nat} (ht : (pc : Int) + off = (t : Int)) (hd : decode (mB M) pc = .ok (.if_icmp .eq off, 3)) (kt : x = y → Ex g M t L st h u Q) (kf : ¬ x = y → Ex g M (pc + 3) L st h u Q) : Ex g M pc L (vI y :: vI x :: st) h u Q := by
  intro p l e s m args below meth c H locs ls hC hR hS hL hl h1 h2
  obtain ⟨hx, hb, -⟩ := id hC
  exact lv_icmp_eq hx hb hd ht (fun hc => kt hc p l e s m args below meth c H locs ls hC hR hS hL hl h1 h2) (fun hc => kf hc p l e s m args below meth c H locs ls hC hR hS hL hl h1 h2)
theorem x_if_ne {g : Gp} {M : MD} {pc : Nat} {L st : List AV} {h : AH} {u : Nat × Nat} {Q : PQ} {x : Int32} {off : Int} {t : Nat} (ht : (pc : Int) + off = (t : Int)) (hd : decode (mB M) pc = .ok (.ifCond .ne off, 3)) (kt : ¬ x = 0 → Ex g M t L st h u Q) (kf : x = 0 → Ex g M (pc + 3) L st h u Q) : Ex g M pc L (vI x :: st) h u Q := by
  intro p l e s m args below meth c H locs ls hC hR hS hL hl h1 h2
  obtain ⟨hx, hb, -⟩ := id hC
  exact lv_if_ne hx hb hd ht (fun hc => kt hc p l e s m args below meth c H locs ls hC hR hS hL hl h1 h2) (fun hc => kf hc p l e s m args below meth c H locs ls hC hR hS hL hl h1 h2)
theorem x_icmp_ne {g : Gp} {M : MD} {pc : Nat} {L st : List AV} {h : AH} {u : Nat × Nat} {Q : PQ} {x y : Int32} {off : Int} {t : Nat} (ht : (pc : Int) + off = (t : Int)) (hd : decode (mB M) pc = .ok (.if_icmp .ne off, 3)) (kt : ¬ x = y → Ex g M t L st h u Q) (kf : x = y → Ex g M (pc + 3) L st h u Q) : Ex g M pc L (vI y :: vI x :: st) h u Q := by
  intro p l e s m args below meth c H locs ls hC hR hS hL hl h1 h2
  obtain ⟨hx, hb, -⟩ := id hC
  exact lv_icmp_ne hx hb hd ht (fun hc => kt hc p l e s m args below meth c H locs ls hC hR hS hL hl h1 h2) (fun hc => kf hc p l e s m args below meth c H locs ls hC hR hS hL hl h1 h2)
theorem x_if_lt {g : Gp} {M : MD} {pc : Nat} {L st : List AV} {h : AH} {u : Nat × Nat} {Q : PQ} {x : Int32} {off : Int} {t : Nat} (ht : (pc : Int) + off = (t : Int)) (hd : decode (mB M) pc = .ok (.ifCond .lt off, 3)) (kt : x < 0 → Ex g M t L st h u Q) (kf : ¬ x < 0 → Ex g M (pc + 3) L st h u Q) : Ex g M pc L (vI x :: st) h u Q := by
  intro p l e s m args below meth c H locs ls hC hR hS hL hl h1 h2
  obtain ⟨hx, hb, -⟩ := id hC
  exact lv_if_lt hx hb hd ht (fun hc => kt hc p l e s m args below meth c H locs ls hC hR hS hL hl h1 h2) (fun hc => kf hc p l e s m args below meth c H locs ls hC hR hS hL hl h1 h2)
theorem x_icmp_lt {g : Gp} {M : MD} {pc : Nat} {L st : List AV} {h : AH} {u : Nat × Nat} {Q : PQ} {x y : Int32} {off : Int} {t : Nat} (ht : (pc : Int) + off = (t : Int)) (hd : decode (mB M) pc = .ok (.if_icmp .lt off, 3)) (kt : x < y → Ex g M t L st h u Q) (kf : ¬ x < y → Ex g M (pc + 3) L st h u Q) : Ex g M pc L (vI y :: vI x :: st) h u Q := by
  intro p l e s m args below meth c H locs ls hC hR hS hL hl h1 h2
  obtain ⟨hx, hb, -⟩ := id hC
  exact lv_icmp_lt hx hb hd ht (fun hc => kt hc p l e s m args below meth c H locs ls hC hR hS hL hl h1 h2) (fun hc => kf hc p l e s m args below meth c H locs ls hC hR hS hL hl h1 h2)
theorem x_if_ge {g : Gp} {M : MD} {pc : Nat} {L st : List AV} {h : AH} {u : Nat × Nat} {Q : PQ} {x : Int32} {off : Int} {t : Nat} (ht : (pc : Int) + off = (t : Int)) (hd : decode (mB M) pc = .ok (.ifCond .ge off, 3)) (kt : 0 ≤ x → Ex g M t L st h u Q) (kf : ¬ 0 ≤ x → Ex g M (pc + 3) L st h u Q) : Ex g M pc L (vI x :: st) h u Q := by
  intro p l e s m args below meth c H locs ls hC hR hS hL hl h1 h2
  obtain ⟨hx, hb, -⟩ := id hC
  exact lv_if_ge hx hb hd ht (fun hc => kt hc p l e s m args below meth c H locs ls hC hR hS hL hl h1 h2) (fun hc => kf hc p l e s m args below meth c H locs ls hC hR hS hL hl h1 h2)
theorem x_icmp_ge {g : Gp} {M : MD} {pc : Nat} {L st : List AV} {h : AH} {u : Nat × Nat} {Q : PQ} {x y : Int32} {off : Int} {t : Nat} (ht : (pc : Int) + off = (t : Int)) (hd : decode (mB M) pc = .ok (.if_icmp .ge off, 3)) (kt : y ≤ x → Ex g M t L st h u Q) (kf : ¬ y ≤ x → Ex g M (pc + 3) L st h u Q) : Ex g M pc L (vI y :: vI x :: st) h u Q := by
  intro p l e s m args below meth c H locs ls hC hR hS hL hl h1 h2
  obtain ⟨hx, hb, -⟩ := id hC
  exact lv_icmp_ge hx hb hd ht (fun hc => kt hc p l e s m args below meth c H locs ls hC hR hS hL hl h1 h2) (fun hc => kf hc p l e s m args below meth c H locs ls hC hR hS hL hl h1 h2)
theorem x_if_gt {g : Gp} {M : MD} {pc : Nat} {L st : List AV} {h : AH} {u : Nat × Nat} {Q : PQ} {x : Int32} {off : Int} {t : Nat} (ht : (pc : Int) + off = (t : Int)) (hd : decode (mB M) pc = .ok (.ifCond .gt off, 3)) (kt : 0 < x → Ex g M t L st h u Q) (kf : ¬ 0 < x → Ex g M (pc + 3) L st h u Q) : Ex g M pc L (vI x :: st) h u Q := by
  intro p l e s m args below meth c H locs ls hC hR hS hL hl h1 h2
  obtain ⟨hx, hb, -⟩ := id hC
  exact lv_if_gt hx hb hd ht (fun hc => kt hc p l e s m args below meth c H locs ls hC hR hS hL hl h1 h2) (fun hc => kf hc p l e s m args below meth c H locs ls hC hR hS hL hl h1 h2)
theorem x_icmp_gt {g : Gp} {M : MD} {pc : Nat} {L st : List AV} {h : AH} {u : Nat × Nat} {Q : PQ} {x y : Int32} {off : Int} {t : Nat} (ht : (pc : Int) + off = (t : Int)) (hd : decode (mB M) pc = .ok (.if_icmp .gt off, 3)) (kt : y < x → Ex g M t L st h u Q) (kf : ¬ y < x → Ex g M (pc + 3) L st h u Q) : Ex g M pc L (vI y :: vI x :: st) h u Q := by
  intro p l e s m args below meth c H locs ls hC hR hS hL hl h1 h2
  obtain ⟨hx, hb, -⟩ := id hC
  exact lv_icmp_gt hx hb hd ht (fun hc => kt hc p l e s m args below meth c H locs ls hC hR hS hL hl h1 h2) (fun hc => kf hc p l e s m args below meth c H locs ls hC hR hS hL hl h1 h2)
theorem x_if_le {g : Gp} {M : MD} {pc : Nat} {L st : List AV} {h : AH} {u : Nat × Nat} {Q : PQ} {x : Int32} {off : Int} {t : Nat} (ht : (pc : Int) + off = (t : Int)) (hd : decode (mB M) pc = .ok (.ifCond .le off, 3)) (kt : x ≤ 0 → Ex g M t L st h u Q) (kf : ¬ x ≤ 0 → Ex g M (pc + 3) L st h u Q) : Ex g M pc L (vI x :: st) h u Q := by
  intro p l e s m args below meth c H locs ls hC hR hS hL hl h1 h2
  obtain ⟨hx, hb, -⟩ := id hC
  exact lv_if_le hx hb hd ht (fun hc => kt hc p l e s m args below meth c H locs ls hC hR hS hL hl h1 h2) (fun hc => kf hc p l e s m args below meth c H locs ls hC hR hS hL hl h1 h2)
theorem x_icmp_le {g : Gp} {M : MD} {pc : Nat} {L st : List AV} {h : AH} {u : Nat × Nat} {Q : PQ} {x y : Int32} {off : Int} {t : Nat} (ht : (pc : Int) + off = (t : Int)) (hd : decode (mB M) pc = .ok (.if_icmp .le off, 3)) (kt : x ≤ y → Ex g M t L st h u Q) (kf : ¬ x ≤ y → Ex g M (pc + 3) L st h u Q) : Ex g M pc L (vI y :: vI x :: st) h u Q := by
  intro p l e s m args below meth c H locs ls hC hR hS hL hl h1 h2
  obtain ⟨hx, hb, -⟩ := id hC
  exact lv_icmp_le hx hb hd ht (fun hc => kt hc p l e s m args below meth c H locs ls hC hR hS hL hl h1 h2) (fun hc => kf hc p l e s m args below meth c H locs ls hC hR hS hL hl h1 h2)
