/-! ===== the model is made ===== -/
theorem qX10i : mR mX10_init = none := rfl
theorem qCX10i : mC mX10_init = 22 := rfl
theorem qSX10i : mS mX10_init = 1139 := rfl
def bX10i_4 : List OP := [(.aload_n 0, 1, (0, 0, 0), vU), (.bipush 16, 2, (0, 0, 0), vI 16), (.newarray .int, 2, (2, 0, 0), vU), (.putfield 9, 3, (10, 1, 2), vU)]
theorem oX10i_4 : okAt mX10_init bX10i_4 4 = true := by decide +kernel
theorem rX10i_4 {g : Gp} {Q : PQ} {L st : List AV} {h : AH} {u : Nat × Nat} (hr : run mX10_init Q (fun pc L st h u => Ex g mX10_init pc L st h u Q) bX10i_4 4 L st h u) : Ex g mX10_init 4 L st h u Q := run_ok (M := mX10_init) cfX10_ok (fun _ _ _ _ _ k => k) _ _ _ _ _ _ oX10i_4 hr
def bX10i_12 : List OP := [(.aload_n 0, 1, (0, 0, 0), vU), (.bipush 12, 2, (0, 0, 0), vI 12), (.newarray .long, 2, (3, 0, 0), vU), (.putfield 13, 3, (10, 2, 2), vU)]
theorem oX10i_12 : okAt mX10_init bX10i_12 12 = true := by decide +kernel
theorem rX10i_12 {g : Gp} {Q : PQ} {L st : List AV} {h : AH} {u : Nat × Nat} (hr : run mX10_init Q (fun pc L st h u => Ex g mX10_init pc L st h u Q) bX10i_12 12 L st h u) : Ex g mX10_init 12 L st h u Q := run_ok (M := mX10_init) cfX10_ok (fun _ _ _ _ _ k => k) _ _ _ _ _ _ oX10i_12 hr
def bX10i_20 : List OP := [(.aload_n 0, 1, (0, 0, 0), vU), (.iconst (-1), 1, (0, 0, 0), vI (-1)), (.putfield 17, 3, (10, 3, 0), vU)]
theorem oX10i_20 : okAt mX10_init bX10i_20 20 = true := by decide +kernel
theorem rX10i_20 {g : Gp} {Q : PQ} {L st : List AV} {h : AH} {u : Nat × Nat} (hr : run mX10_init Q (fun pc L st h u => Ex g mX10_init pc L st h u Q) bX10i_20 20 L st h u) : Ex g mX10_init 20 L st h u Q := run_ok (M := mX10_init) cfX10_ok (fun _ _ _ _ _ k => k) _ _ _ _ _ _ oX10i_20 hr
def bX10i_25 : List OP := [(.aload_n 0, 1, (0, 0, 0), vU), (.iconst 1, 1, (0, 0, 0), vI 1), (.putfield 21, 3, (10, 4, 0), vU)]
theorem oX10i_25 : okAt mX10_init bX10i_25 25 = true := by decide +kernel
theorem rX10i_25 {g : Gp} {Q : PQ} {L st : List AV} {h : AH} {u : Nat × Nat} (hr : run mX10_init Q (fun pc L st h u => Ex g mX10_init pc L st h u Q) bX10i_25 25 L st h u) : Ex g mX10_init 25 L st h u Q := run_ok (M := mX10_init) cfX10_ok (fun _ _ _ _ _ k => k) _ _ _ _ _ _ oX10i_25 hr
def bX10i_30 : List OP := [(.aload_n 0, 1, (0, 0, 0), vU), (.bipush 10, 2, (0, 0, 0), vI 10), (.newarray .int, 2, (2, 0, 0), vU), (.putfield 24, 3, (10, 5, 2), vU)]
theorem oX10i_30 : okAt mX10_init bX10i_30 30 = true := by decide +kernel
theorem rX10i_30 {g : Gp} {Q : PQ} {L st : List AV} {h : AH} {u : Nat × Nat} (hr : run mX10_init Q (fun pc L st h u => Ex g mX10_init pc L st h u Q) bX10i_30 30 L st h u) : Ex g mX10_init 30 L st h u Q := run_ok (M := mX10_init) cfX10_ok (fun _ _ _ _ _ k => k) _ _ _ _ _ _ oX10i_30 hr
def bX10i_38 : List OP := [(.aload_n 0, 1, (0, 0, 0), vU), (.bipush 10, 2, (0, 0, 0), vI 10), (.newarray .int, 2, (2, 0, 0), vU), (.putfield 27, 3, (10, 6, 2), vU)]
theorem oX10i_38 : okAt mX10_init bX10i_38 38 = true := by decide +kernel
theorem rX10i_38 {g : Gp} {Q : PQ} {L st : List AV} {h : AH} {u : Nat × Nat} (hr : run mX10_init Q (fun pc L st h u => Ex g mX10_init pc L st h u Q) bX10i_38 38 L st h u) : Ex g mX10_init 38 L st h u Q := run_ok (M := mX10_init) cfX10_ok (fun _ _ _ _ _ k => k) _ _ _ _ _ _ oX10i_38 hr
def bX10i_46 : List OP := [(.aload_n 0, 1, (0, 0, 0), vU), (.bipush 80, 2, (0, 0, 0), vI 80), (.newarray .int, 2, (2, 0, 0), vU), (.putfield 30, 3, (10, 7, 2), vU)]
theorem oX10i_46 : okAt mX10_init bX10i_46 46 = true := by decide +kernel
theorem rX10i_46 {g : Gp} {Q : PQ} {L st : List AV} {h : AH} {u : Nat × Nat} (hr : run mX10_init Q (fun pc L st h u => Ex g mX10_init pc L st h u Q) bX10i_46 46 L st h u) : Ex g mX10_init 46 L st h u Q := run_ok (M := mX10_init) cfX10_ok (fun _ _ _ _ _ k => k) _ _ _ _ _ _ oX10i_46 hr
def bX10i_54 : List OP := [(.aload_n 0, 1, (0, 0, 0), vU), (.bipush 80, 2, (0, 0, 0), vI 80), (.newarray .int, 2, (2, 0, 0), vU), (.putfield 33, 3, (10, 8, 2), vU)]
theorem oX10i_54 : okAt mX10_init bX10i_54 54 = true := by decide +kernel
theorem rX10i_54 {g : Gp} {Q : PQ} {L st : List AV} {h : AH} {u : Nat × Nat} (hr : run mX10_init Q (fun pc L st h u => Ex g mX10_init pc L st h u Q) bX10i_54 54 L st h u) : Ex g mX10_init 54 L st h u Q := run_ok (M := mX10_init) cfX10_ok (fun _ _ _ _ _ k => k) _ _ _ _ _ _ oX10i_54 hr
def bX10i_62 : List OP := [(.aload_n 0, 1, (0, 0, 0), vU), (.bipush 80, 2, (0, 0, 0), vI 80), (.newarray .int, 2, (2, 0, 0), vU), (.putfield 36, 3, (10, 9, 2), vU)]
theorem oX10i_62 : okAt mX10_init bX10i_62 62 = true := by decide +kernel
theorem rX10i_62 {g : Gp} {Q : PQ} {L st : List AV} {h : AH} {u : Nat × Nat} (hr : run mX10_init Q (fun pc L st h u => Ex g mX10_init pc L st h u Q) bX10i_62 62 L st h u) : Ex g mX10_init 62 L st h u Q := run_ok (M := mX10_init) cfX10_ok (fun _ _ _ _ _ k => k) _ _ _ _ _ _ oX10i_62 hr
def bX10i_70 : List OP := [(.aload_n 0, 1, (0, 0, 0), vU), (.bipush 80, 2, (0, 0, 0), vI 80), (.newarray .int, 2, (2, 0, 0), vU), (.putfield 39, 3, (10, 10, 2), vU)]
theorem oX10i_70 : okAt mX10_init bX10i_70 70 = true := by decide +kernel
theorem rX10i_70 {g : Gp} {Q : PQ} {L st : List AV} {h : AH} {u : Nat × Nat} (hr : run mX10_init Q (fun pc L st h u => Ex g mX10_init pc L st h u Q) bX10i_70 70 L st h u) : Ex g mX10_init 70 L st h u Q := run_ok (M := mX10_init) cfX10_ok (fun _ _ _ _ _ k => k) _ _ _ _ _ _ oX10i_70 hr
def bX10i_78 : List OP := [(.aload_n 0, 1, (0, 0, 0), vU), (.bipush 12, 2, (0, 0, 0), vI 12), (.newarray .int, 2, (2, 0, 0), vU), (.putfield 42, 3, (10, 12, 2), vU)]
theorem oX10i_78 : okAt mX10_init bX10i_78 78 = true := by decide +kernel
theorem rX10i_78 {g : Gp} {Q : PQ} {L st : List AV} {h : AH} {u : Nat × Nat} (hr : run mX10_init Q (fun pc L st h u => Ex g mX10_init pc L st h u Q) bX10i_78 78 L st h u) : Ex g mX10_init 78 L st h u Q := run_ok (M := mX10_init) cfX10_ok (fun _ _ _ _ _ k => k) _ _ _ _ _ _ oX10i_78 hr
def bX10i_86 : List OP := [(.aload_n 0, 1, (0, 0, 0), vU), (.bipush 12, 2, (0, 0, 0), vI 12), (.newarray .int, 2, (2, 0, 0), vU), (.putfield 45, 3, (10, 13, 2), vU)]
theorem oX10i_86 : okAt mX10_init bX10i_86 86 = true := by decide +kernel
theorem rX10i_86 {g : Gp} {Q : PQ} {L st : List AV} {h : AH} {u : Nat × Nat} (hr : run mX10_init Q (fun pc L st h u => Ex g mX10_init pc L st h u Q) bX10i_86 86 L st h u) : Ex g mX10_init 86 L st h u Q := run_ok (M := mX10_init) cfX10_ok (fun _ _ _ _ _ k => k) _ _ _ _ _ _ oX10i_86 hr
def bX10i_94 : List OP := [(.aload_n 0, 1, (0, 0, 0), vU), (.bipush 12, 2, (0, 0, 0), vI 12), (.newarray .int, 2, (2, 0, 0), vU), (.putfield 48, 3, (10, 14, 2), vU)]
theorem oX10i_94 : okAt mX10_init bX10i_94 94 = true := by decide +kernel
theorem rX10i_94 {g : Gp} {Q : PQ} {L st : List AV} {h : AH} {u : Nat × Nat} (hr : run mX10_init Q (fun pc L st h u => Ex g mX10_init pc L st h u Q) bX10i_94 94 L st h u) : Ex g mX10_init 94 L st h u Q := run_ok (M := mX10_init) cfX10_ok (fun _ _ _ _ _ k => k) _ _ _ _ _ _ oX10i_94 hr
def bX10i_102 : List OP := [(.aload_n 0, 1, (0, 0, 0), vU), (.bipush 12, 2, (0, 0, 0), vI 12), (.newarray .int, 2, (2, 0, 0), vU), (.putfield 51, 3, (10, 15, 2), vU)]
theorem oX10i_102 : okAt mX10_init bX10i_102 102 = true := by decide +kernel
theorem rX10i_102 {g : Gp} {Q : PQ} {L st : List AV} {h : AH} {u : Nat × Nat} (hr : run mX10_init Q (fun pc L st h u => Ex g mX10_init pc L st h u Q) bX10i_102 102 L st h u) : Ex g mX10_init 102 L st h u Q := run_ok (M := mX10_init) cfX10_ok (fun _ _ _ _ _ k => k) _ _ _ _ _ _ oX10i_102 hr
def bX10i_110 : List OP := [(.aload_n 0, 1, (0, 0, 0), vU), (.bipush 12, 2, (0, 0, 0), vI 12), (.newarray .boolean, 2, (4, 0, 0), vU), (.putfield 54, 3, (10, 16, 2), vU)]
theorem oX10i_110 : okAt mX10_init bX10i_110 110 = true := by decide +kernel
theorem rX10i_110 {g : Gp} {Q : PQ} {L st : List AV} {h : AH} {u : Nat × Nat} (hr : run mX10_init Q (fun pc L st h u => Ex g mX10_init pc L st h u Q) bX10i_110 110 L st h u) : Ex g mX10_init 110 L st h u Q := run_ok (M := mX10_init) cfX10_ok (fun _ _ _ _ _ k => k) _ _ _ _ _ _ oX10i_110 hr
def bX10i_118 : List OP := [(.aload_n 0, 1, (0, 0, 0), vU), (.bipush 120, 2, (0, 0, 0), vI 120), (.newarray .long, 2, (3, 0, 0), vU), (.putfield 58, 3, (10, 17, 2), vU)]
theorem oX10i_118 : okAt mX10_init bX10i_118 118 = true := by decide +kernel
theorem rX10i_118 {g : Gp} {Q : PQ} {L st : List AV} {h : AH} {u : Nat × Nat} (hr : run mX10_init Q (fun pc L st h u => Ex g mX10_init pc L st h u Q) bX10i_118 118 L st h u) : Ex g mX10_init 118 L st h u Q := run_ok (M := mX10_init) cfX10_ok (fun _ _ _ _ _ k => k) _ _ _ _ _ _ oX10i_118 hr
def bX10i_126 : List OP := [(.aload_n 0, 1, (0, 0, 0), vU), (.bipush 120, 2, (0, 0, 0), vI 120), (.newarray .int, 2, (2, 0, 0), vU), (.putfield 61, 3, (10, 18, 2), vU)]
theorem oX10i_126 : okAt mX10_init bX10i_126 126 = true := by decide +kernel
theorem rX10i_126 {g : Gp} {Q : PQ} {L st : List AV} {h : AH} {u : Nat × Nat} (hr : run mX10_init Q (fun pc L st h u => Ex g mX10_init pc L st h u Q) bX10i_126 126 L st h u) : Ex g mX10_init 126 L st h u Q := run_ok (M := mX10_init) cfX10_ok (fun _ _ _ _ _ k => k) _ _ _ _ _ _ oX10i_126 hr
def bX10i_134 : List OP := [(.aload_n 0, 1, (0, 0, 0), vU), (.bipush 120, 2, (0, 0, 0), vI 120), (.newarray .int, 2, (2, 0, 0), vU), (.putfield 64, 3, (10, 19, 2), vU)]
theorem oX10i_134 : okAt mX10_init bX10i_134 134 = true := by decide +kernel
theorem rX10i_134 {g : Gp} {Q : PQ} {L st : List AV} {h : AH} {u : Nat × Nat} (hr : run mX10_init Q (fun pc L st h u => Ex g mX10_init pc L st h u Q) bX10i_134 134 L st h u) : Ex g mX10_init 134 L st h u Q := run_ok (M := mX10_init) cfX10_ok (fun _ _ _ _ _ k => k) _ _ _ _ _ _ oX10i_134 hr
def bX10i_142 : List OP := [(.aload_n 0, 1, (0, 0, 0), vU), (.bipush 121, 2, (0, 0, 0), vI 121), (.newarray .int, 2, (2, 0, 0), vU), (.putfield 67, 3, (10, 20, 2), vU)]
theorem oX10i_142 : okAt mX10_init bX10i_142 142 = true := by decide +kernel
theorem rX10i_142 {g : Gp} {Q : PQ} {L st : List AV} {h : AH} {u : Nat × Nat} (hr : run mX10_init Q (fun pc L st h u => Ex g mX10_init pc L st h u Q) bX10i_142 142 L st h u) : Ex g mX10_init 142 L st h u Q := run_ok (M := mX10_init) cfX10_ok (fun _ _ _ _ _ k => k) _ _ _ _ _ _ oX10i_142 hr
def bX10i_150 : List OP := [(.aload_n 0, 1, (0, 0, 0), vU), (.bipush 20, 2, (0, 0, 0), vI 20), (.newarray .int, 2, (2, 0, 0), vU), (.putfield 70, 3, (10, 22, 2), vU)]
theorem oX10i_150 : okAt mX10_init bX10i_150 150 = true := by decide +kernel
theorem rX10i_150 {g : Gp} {Q : PQ} {L st : List AV} {h : AH} {u : Nat × Nat} (hr : run mX10_init Q (fun pc L st h u => Ex g mX10_init pc L st h u Q) bX10i_150 150 L st h u) : Ex g mX10_init 150 L st h u Q := run_ok (M := mX10_init) cfX10_ok (fun _ _ _ _ _ k => k) _ _ _ _ _ _ oX10i_150 hr
def bX10i_158 : List OP := [(.aload_n 0, 1, (0, 0, 0), vU), (.bipush 20, 2, (0, 0, 0), vI 20), (.newarray .int, 2, (2, 0, 0), vU), (.putfield 73, 3, (10, 23, 2), vU)]
theorem oX10i_158 : okAt mX10_init bX10i_158 158 = true := by decide +kernel
theorem rX10i_158 {g : Gp} {Q : PQ} {L st : List AV} {h : AH} {u : Nat × Nat} (hr : run mX10_init Q (fun pc L st h u => Ex g mX10_init pc L st h u Q) bX10i_158 158 L st h u) : Ex g mX10_init 158 L st h u Q := run_ok (M := mX10_init) cfX10_ok (fun _ _ _ _ _ k => k) _ _ _ _ _ _ oX10i_158 hr
def bX10i_166 : List OP := [(.aload_n 0, 1, (0, 0, 0), vU), (.bipush 10, 2, (0, 0, 0), vI 10), (.newarray .int, 2, (2, 0, 0), vU), (.putfield 76, 3, (10, 24, 2), vU)]
theorem oX10i_166 : okAt mX10_init bX10i_166 166 = true := by decide +kernel
theorem rX10i_166 {g : Gp} {Q : PQ} {L st : List AV} {h : AH} {u : Nat × Nat} (hr : run mX10_init Q (fun pc L st h u => Ex g mX10_init pc L st h u Q) bX10i_166 166 L st h u) : Ex g mX10_init 166 L st h u Q := run_ok (M := mX10_init) cfX10_ok (fun _ _ _ _ _ k => k) _ _ _ _ _ _ oX10i_166 hr
def bX10i_174 : List OP := [(.aload_n 0, 1, (0, 0, 0), vU), (.bipush 10, 2, (0, 0, 0), vI 10), (.newarray .int, 2, (2, 0, 0), vU), (.putfield 79, 3, (10, 25, 2), vU)]
theorem oX10i_174 : okAt mX10_init bX10i_174 174 = true := by decide +kernel
theorem rX10i_174 {g : Gp} {Q : PQ} {L st : List AV} {h : AH} {u : Nat × Nat} (hr : run mX10_init Q (fun pc L st h u => Ex g mX10_init pc L st h u Q) bX10i_174 174 L st h u) : Ex g mX10_init 174 L st h u Q := run_ok (M := mX10_init) cfX10_ok (fun _ _ _ _ _ k => k) _ _ _ _ _ _ oX10i_174 hr
def bX10i_182 : List OP := [(.aload_n 0, 1, (0, 0, 0), vU), (.sipush 170, 3, (0, 0, 0), vI 170), (.newarray .int, 2, (2, 0, 0), vU), (.putfield 82, 3, (10, 26, 2), vU)]
theorem oX10i_182 : okAt mX10_init bX10i_182 182 = true := by decide +kernel
theorem rX10i_182 {g : Gp} {Q : PQ} {L st : List AV} {h : AH} {u : Nat × Nat} (hr : run mX10_init Q (fun pc L st h u => Ex g mX10_init pc L st h u Q) bX10i_182 182 L st h u) : Ex g mX10_init 182 L st h u Q := run_ok (M := mX10_init) cfX10_ok (fun _ _ _ _ _ k => k) _ _ _ _ _ _ oX10i_182 hr
def bX10i_191 : List OP := [(.iconst 0, 1, (0, 0, 0), vI 0), (.istore_n 1, 1, (1, 0, 0), vU)]
theorem oX10i_191 : okAt mX10_init bX10i_191 191 = true := by decide +kernel
theorem rX10i_191 {g : Gp} {Q : PQ} {L st : List AV} {h : AH} {u : Nat × Nat} (hr : run mX10_init Q (fun pc L st h u => Ex g mX10_init pc L st h u Q) bX10i_191 191 L st h u) : Ex g mX10_init 191 L st h u Q := run_ok (M := mX10_init) cfX10_ok (fun _ _ _ _ _ k => k) _ _ _ _ _ _ oX10i_191 hr
/-- the model as far as it is made: k rows -/
def InvM (h0 : AH) (k : Nat) (h : AH) (a b : Int32) : Prop := (zN h = 100 + k ∧ zK h 99 = (1, 10) ∧ ∀ j, j < k → zK h (100 + j) = mkd j ∧ (zI h (100 + j) = fun _ => 0) ∧ (zL h (100 + j) = fun _ => 0)) ∧ (∀ i, i < 27 → mfd i ≠ 0 → mfd i < 100 + k → zR h 99 i = mfd i) ∧ (zI h 99 3 = a ∧ zI h 99 4 = b ∧ zI h 99 11 = 0 ∧ zI h 99 0 = 0) ∧ Kp (fun a => a = 99) h0 h
theorem InvM.st {h0 h : AH} {k fld : Nat} {a b : Int32} {kd : Nat × Nat} (x : InvM h0 k h a b) (h1 : mkd k = kd) (h2 : mfd fld = 100 + k) (h3 : ∀ i, i < 27 → mfd i = 100 + k → i = fld) : InvM h0 (k + 1) (sR (nw h kd) 99 fld (zN h)) a b := by
  obtain ⟨⟨n, k9, ks⟩, rs, ⟨i3, i4, i11, i0⟩, kp⟩ := x
  have n9 : ¬ 99 = zN h := by omega
  refine ⟨⟨by show zN h + 1 = _; omega, ?_, fun j hj => ?_⟩, fun i hi h0 hlt => ?_, ⟨?_, ?_, ?_, ?_⟩, (kp.tr Kp.nw).tr (Kp.sR rfl)⟩
  · rw [kR, zK_nwE, if_neg n9]; exact k9
  · rw [kR, zK_nwE, iR, zI_nwE, lR, zL_nwE]
    by_cases e : j = k
    · rw [if_pos (by omega), if_pos (by omega), if_pos (by omega), e]
      exact ⟨h1.symm, rfl, rfl⟩
    · rw [if_neg (by omega), if_neg (by omega), if_neg (by omega)]
      exact ks j (by omega)
  · rw [zR_sR, zR_nwE, if_neg n9]
    by_cases e : i = fld
    · rw [e, up1_s, h2, n]
    · rw [up1_n _ _ e]
      refine rs i hi h0 ?_
      have : mfd i ≠ 100 + k := fun q => e (h3 i hi q)
      omega
  · rw [iR, zI_nwE, if_neg n9]; exact i3
  · rw [iR, zI_nwE, if_neg n9]; exact i4
  · rw [iR, zI_nwE, if_neg n9]; exact i11
  · rw [iR, zI_nwE, if_neg n9]; exact i0
theorem InvM.f3 {h0 h : AH} {k : Nat} {a b v : Int32} (x : InvM h0 k h a b) : InvM h0 k (sI h 99 3 v) v b := by
  obtain ⟨⟨n, k9, ks⟩, rs, ⟨i3, i4, i11, i0⟩, kp⟩ := x
  exact ⟨⟨n, k9, fun j hj => by rw [zI_n (by omega)]; exact ks j hj⟩, rs, ⟨by rw [zI_sI, up1_s], by rw [zI_sI, up1_n _ _ (by decide)]; exact i4, by rw [zI_sI, up1_n _ _ (by decide)]; exact i11, by rw [zI_sI, up1_n _ _ (by decide)]; exact i0⟩, kp.tr (Kp.sI rfl)⟩
theorem InvM.f4 {h0 h : AH} {k : Nat} {a b v : Int32} (x : InvM h0 k h a b) : InvM h0 k (sI h 99 4 v) a v := by
  obtain ⟨⟨n, k9, ks⟩, rs, ⟨i3, i4, i11, i0⟩, kp⟩ := x
  exact ⟨⟨n, k9, fun j hj => by rw [zI_n (by omega)]; exact ks j hj⟩, rs, ⟨by rw [zI_sI, up1_n _ _ (by decide)]; exact i3, by rw [zI_sI, up1_s], by rw [zI_sI, up1_n _ _ (by decide)]; exact i11, by rw [zI_sI, up1_n _ _ (by decide)]; exact i0⟩, kp.tr (Kp.sI rfl)⟩
theorem InvM.k9 {h0 h : AH} {k : Nat} {a b : Int32} {kd : Nat × Nat} (x : InvM h0 k h a b) : zK (nw h kd) 99 = (1, 10) := by
  rw [zK_nwE, if_neg (by have := x.1.1; omega)]
  exact x.1.2.1
theorem e_modInit {g : Gp} {h : AH} {Q : PQ} (hc : zK h 99 = (1, 10)) (hn : zN h = 100) (z : zI h 99 = fun _ => 0) (hq : ∀ h', zN h' = 122 → Kp (fun a => a = 99) h h' → ModR h' (fun _ => 0) (fun _ => []) 0 (1, fun _ => 0, fun _ => [], []) → Q (.inl none) h') : Ev g mX10_init [vR 99] h Q := by
  refine nX10_init ?_
  refine rX10_init_0 ?_
  simp only [bX10_init_0, run, Nat.reduceAdd, lg, st1, st2, lkill, lset, fvv, sfv, kind3, cat1, retI, retA, List.length_cons, List.length_nil, true_and, and_true, or_true, true_or, qX10_init]
  refine sX10_init_1 (by decide) ?_
  have v0 : InvM h 0 h 0 0 := ⟨⟨hn, hc, fun j hj => absurd hj (Nat.not_lt_zero _)⟩, fun i hi h0 hlt => by
    have : ∀ i, i < 27 → mfd i = 0 ∨ 100 ≤ mfd i := by decide
    rcases this i hi with q | q
    · exact absurd q h0
    · omega, ⟨by rw [z], by rw [z], by rw [z], by rw [z]⟩, Kp.rf⟩
  refine rX10i_4 ?_
  simp only [bX10i_4, run, Nat.reduceAdd, lg, st1, st2, lkill, lset, fvv, sfv, kind3, cat1, retI, retA, List.length_cons, List.length_nil, true_and, and_true, or_true, true_or, qX10i, v0.1.2.1, kR, zN_sR, show ((16 : Int32)).toNatClampNeg = 16 by decide, not_true_eq_false, not_false_eq_true, false_implies, true_and, and_true, tti]
  refine ⟨by decide, by decide, by decide, by decide, v0.k9, ?_⟩
  have v1 := InvM.st (kd := (2, 16)) (fld := 1) v0 (by decide) (by decide) (by decide)
  generalize sR (nw h (2, 16)) 99 1 (zN h) = g1 at v1 ⊢
  refine rX10i_12 ?_
  simp only [bX10i_12, run, Nat.reduceAdd, lg, st1, st2, lkill, lset, fvv, sfv, kind3, cat1, retI, retA, List.length_cons, List.length_nil, true_and, and_true, or_true, true_or, qX10i, v1.1.2.1, kR, zN_sR, show ((12 : Int32)).toNatClampNeg = 12 by decide, not_true_eq_false, not_false_eq_true, false_implies, true_and, and_true, tti]
  refine ⟨by decide, by decide, by decide, by decide, v1.k9, ?_⟩
  have v2 := InvM.st (kd := (3, 12)) (fld := 2) v1 (by decide) (by decide) (by decide)
  generalize sR (nw g1 (3, 12)) 99 2 (zN g1) = g2 at v2 ⊢
  refine rX10i_20 ?_
  simp only [bX10i_20, run, Nat.reduceAdd, lg, st1, st2, lkill, lset, fvv, sfv, kind3, cat1, retI, retA, List.length_cons, List.length_nil, true_and, and_true, or_true, true_or, qX10i, v2.1.2.1, not_true_eq_false, not_false_eq_true, false_implies, true_and, and_true, tti]
  have v3 := InvM.f3 (v := -1) v2
  generalize sI g2 99 3 (-1) = g3 at v3 ⊢
  refine rX10i_25 ?_
  simp only [bX10i_25, run, Nat.reduceAdd, lg, st1, st2, lkill, lset, fvv, sfv, kind3, cat1, retI, retA, List.length_cons, List.length_nil, true_and, and_true, or_true, true_or, qX10i, v3.1.2.1, not_true_eq_false, not_false_eq_true, false_implies, true_and, and_true, tti]
  have v4 := InvM.f4 (v := 1) v3
  generalize sI g3 99 4 1 = g4 at v4 ⊢
  refine rX10i_30 ?_
  simp only [bX10i_30, run, Nat.reduceAdd, lg, st1, st2, lkill, lset, fvv, sfv, kind3, cat1, retI, retA, List.length_cons, List.length_nil, true_and, and_true, or_true, true_or, qX10i, v4.1.2.1, kR, zN_sR, show ((10 : Int32)).toNatClampNeg = 10 by decide, not_true_eq_false, not_false_eq_true, false_implies, true_and, and_true, tti]
  refine ⟨by decide, by decide, by decide, by decide, v4.k9, ?_⟩
  have v5 := InvM.st (kd := (2, 10)) (fld := 5) v4 (by decide) (by decide) (by decide)
  generalize sR (nw g4 (2, 10)) 99 5 (zN g4) = g5 at v5 ⊢
  refine rX10i_38 ?_
  simp only [bX10i_38, run, Nat.reduceAdd, lg, st1, st2, lkill, lset, fvv, sfv, kind3, cat1, retI, retA, List.length_cons, List.length_nil, true_and, and_true, or_true, true_or, qX10i, v5.1.2.1, kR, zN_sR, show ((10 : Int32)).toNatClampNeg = 10 by decide, not_true_eq_false, not_false_eq_true, false_implies, true_and, and_true, tti]
  refine ⟨by decide, by decide, by decide, by decide, v5.k9, ?_⟩
  have v6 := InvM.st (kd := (2, 10)) (fld := 6) v5 (by decide) (by decide) (by decide)
  generalize sR (nw g5 (2, 10)) 99 6 (zN g5) = g6 at v6 ⊢
  refine rX10i_46 ?_
  simp only [bX10i_46, run, Nat.reduceAdd, lg, st1, st2, lkill, lset, fvv, sfv, kind3, cat1, retI, retA, List.length_cons, List.length_nil, true_and, and_true, or_true, true_or, qX10i, v6.1.2.1, kR, zN_sR, show ((80 : Int32)).toNatClampNeg = 80 by decide, not_true_eq_false, not_false_eq_true, false_implies, true_and, and_true, tti]
  refine ⟨by decide, by decide, by decide, by decide, v6.k9, ?_⟩
  have v7 := InvM.st (kd := (2, 80)) (fld := 7) v6 (by decide) (by decide) (by decide)
  generalize sR (nw g6 (2, 80)) 99 7 (zN g6) = g7 at v7 ⊢
  refine rX10i_54 ?_
  simp only [bX10i_54, run, Nat.reduceAdd, lg, st1, st2, lkill, lset, fvv, sfv, kind3, cat1, retI, retA, List.length_cons, List.length_nil, true_and, and_true, or_true, true_or, qX10i, v7.1.2.1, kR, zN_sR, show ((80 : Int32)).toNatClampNeg = 80 by decide, not_true_eq_false, not_false_eq_true, false_implies, true_and, and_true, tti]
  refine ⟨by decide, by decide, by decide, by decide, v7.k9, ?_⟩
  have v8 := InvM.st (kd := (2, 80)) (fld := 8) v7 (by decide) (by decide) (by decide)
  generalize sR (nw g7 (2, 80)) 99 8 (zN g7) = g8 at v8 ⊢
  refine rX10i_62 ?_
  simp only [bX10i_62, run, Nat.reduceAdd, lg, st1, st2, lkill, lset, fvv, sfv, kind3, cat1, retI, retA, List.length_cons, List.length_nil, true_and, and_true, or_true, true_or, qX10i, v8.1.2.1, kR, zN_sR, show ((80 : Int32)).toNatClampNeg = 80 by decide, not_true_eq_false, not_false_eq_true, false_implies, true_and, and_true, tti]
  refine ⟨by decide, by decide, by decide, by decide, v8.k9, ?_⟩
  have v9 := InvM.st (kd := (2, 80)) (fld := 9) v8 (by decide) (by decide) (by decide)
  generalize sR (nw g8 (2, 80)) 99 9 (zN g8) = g9 at v9 ⊢
  refine rX10i_70 ?_
  simp only [bX10i_70, run, Nat.reduceAdd, lg, st1, st2, lkill, lset, fvv, sfv, kind3, cat1, retI, retA, List.length_cons, List.length_nil, true_and, and_true, or_true, true_or, qX10i, v9.1.2.1, kR, zN_sR, show ((80 : Int32)).toNatClampNeg = 80 by decide, not_true_eq_false, not_false_eq_true, false_implies, true_and, and_true, tti]
  refine ⟨by decide, by decide, by decide, by decide, v9.k9, ?_⟩
  have v10 := InvM.st (kd := (2, 80)) (fld := 10) v9 (by decide) (by decide) (by decide)
  generalize sR (nw g9 (2, 80)) 99 10 (zN g9) = g10 at v10 ⊢
  refine rX10i_78 ?_
  simp only [bX10i_78, run, Nat.reduceAdd, lg, st1, st2, lkill, lset, fvv, sfv, kind3, cat1, retI, retA, List.length_cons, List.length_nil, true_and, and_true, or_true, true_or, qX10i, v10.1.2.1, kR, zN_sR, show ((12 : Int32)).toNatClampNeg = 12 by decide, not_true_eq_false, not_false_eq_true, false_implies, true_and, and_true, tti]
  refine ⟨by decide, by decide, by decide, by decide, v10.k9, ?_⟩
  have v11 := InvM.st (kd := (2, 12)) (fld := 12) v10 (by decide) (by decide) (by decide)
  generalize sR (nw g10 (2, 12)) 99 12 (zN g10) = g11 at v11 ⊢
  refine rX10i_86 ?_
  simp only [bX10i_86, run, Nat.reduceAdd, lg, st1, st2, lkill, lset, fvv, sfv, kind3, cat1, retI, retA, List.length_cons, List.length_nil, true_and, and_true, or_true, true_or, qX10i, v11.1.2.1, kR, zN_sR, show ((12 : Int32)).toNatClampNeg = 12 by decide, not_true_eq_false, not_false_eq_true, false_implies, true_and, and_true, tti]
  refine ⟨by decide, by decide, by decide, by decide, v11.k9, ?_⟩
  have v12 := InvM.st (kd := (2, 12)) (fld := 13) v11 (by decide) (by decide) (by decide)
  generalize sR (nw g11 (2, 12)) 99 13 (zN g11) = g12 at v12 ⊢
  refine rX10i_94 ?_
  simp only [bX10i_94, run, Nat.reduceAdd, lg, st1, st2, lkill, lset, fvv, sfv, kind3, cat1, retI, retA, List.length_cons, List.length_nil, true_and, and_true, or_true, true_or, qX10i, v12.1.2.1, kR, zN_sR, show ((12 : Int32)).toNatClampNeg = 12 by decide, not_true_eq_false, not_false_eq_true, false_implies, true_and, and_true, tti]
  refine ⟨by decide, by decide, by decide, by decide, v12.k9, ?_⟩
  have v13 := InvM.st (kd := (2, 12)) (fld := 14) v12 (by decide) (by decide) (by decide)
  generalize sR (nw g12 (2, 12)) 99 14 (zN g12) = g13 at v13 ⊢
  refine rX10i_102 ?_
  simp only [bX10i_102, run, Nat.reduceAdd, lg, st1, st2, lkill, lset, fvv, sfv, kind3, cat1, retI, retA, List.length_cons, List.length_nil, true_and, and_true, or_true, true_or, qX10i, v13.1.2.1, kR, zN_sR, show ((12 : Int32)).toNatClampNeg = 12 by decide, not_true_eq_false, not_false_eq_true, false_implies, true_and, and_true, tti]
  refine ⟨by decide, by decide, by decide, by decide, v13.k9, ?_⟩
  have v14 := InvM.st (kd := (2, 12)) (fld := 15) v13 (by decide) (by decide) (by decide)
  generalize sR (nw g13 (2, 12)) 99 15 (zN g13) = g14 at v14 ⊢
  refine rX10i_110 ?_
  simp only [bX10i_110, run, Nat.reduceAdd, lg, st1, st2, lkill, lset, fvv, sfv, kind3, cat1, retI, retA, List.length_cons, List.length_nil, true_and, and_true, or_true, true_or, qX10i, v14.1.2.1, kR, zN_sR, show ((12 : Int32)).toNatClampNeg = 12 by decide, not_true_eq_false, not_false_eq_true, false_implies, true_and, and_true, tti]
  refine ⟨by decide, by decide, by decide, by decide, v14.k9, ?_⟩
  have v15 := InvM.st (kd := (4, 12)) (fld := 16) v14 (by decide) (by decide) (by decide)
  generalize sR (nw g14 (4, 12)) 99 16 (zN g14) = g15 at v15 ⊢
  refine rX10i_118 ?_
  simp only [bX10i_118, run, Nat.reduceAdd, lg, st1, st2, lkill, lset, fvv, sfv, kind3, cat1, retI, retA, List.length_cons, List.length_nil, true_and, and_true, or_true, true_or, qX10i, v15.1.2.1, kR, zN_sR, show ((120 : Int32)).toNatClampNeg = 120 by decide, not_true_eq_false, not_false_eq_true, false_implies, true_and, and_true, tti]
  refine ⟨by decide, by decide, by decide, by decide, v15.k9, ?_⟩
  have v16 := InvM.st (kd := (3, 120)) (fld := 17) v15 (by decide) (by decide) (by decide)
  generalize sR (nw g15 (3, 120)) 99 17 (zN g15) = g16 at v16 ⊢
  refine rX10i_126 ?_
  simp only [bX10i_126, run, Nat.reduceAdd, lg, st1, st2, lkill, lset, fvv, sfv, kind3, cat1, retI, retA, List.length_cons, List.length_nil, true_and, and_true, or_true, true_or, qX10i, v16.1.2.1, kR, zN_sR, show ((120 : Int32)).toNatClampNeg = 120 by decide, not_true_eq_false, not_false_eq_true, false_implies, true_and, and_true, tti]
  refine ⟨by decide, by decide, by decide, by decide, v16.k9, ?_⟩
  have v17 := InvM.st (kd := (2, 120)) (fld := 18) v16 (by decide) (by decide) (by decide)
  generalize sR (nw g16 (2, 120)) 99 18 (zN g16) = g17 at v17 ⊢
  refine rX10i_134 ?_
  simp only [bX10i_134, run, Nat.reduceAdd, lg, st1, st2, lkill, lset, fvv, sfv, kind3, cat1, retI, retA, List.length_cons, List.length_nil, true_and, and_true, or_true, true_or, qX10i, v17.1.2.1, kR, zN_sR, show ((120 : Int32)).toNatClampNeg = 120 by decide, not_true_eq_false, not_false_eq_true, false_implies, true_and, and_true, tti]
  refine ⟨by decide, by decide, by decide, by decide, v17.k9, ?_⟩
  have v18 := InvM.st (kd := (2, 120)) (fld := 19) v17 (by decide) (by decide) (by decide)
  generalize sR (nw g17 (2, 120)) 99 19 (zN g17) = g18 at v18 ⊢
  refine rX10i_142 ?_
  simp only [bX10i_142, run, Nat.reduceAdd, lg, st1, st2, lkill, lset, fvv, sfv, kind3, cat1, retI, retA, List.length_cons, List.length_nil, true_and, and_true, or_true, true_or, qX10i, v18.1.2.1, kR, zN_sR, show ((121 : Int32)).toNatClampNeg = 121 by decide, not_true_eq_false, not_false_eq_true, false_implies, true_and, and_true, tti]
  refine ⟨by decide, by decide, by decide, by decide, v18.k9, ?_⟩
  have v19 := InvM.st (kd := (2, 121)) (fld := 20) v18 (by decide) (by decide) (by decide)
  generalize sR (nw g18 (2, 121)) 99 20 (zN g18) = g19 at v19 ⊢
  refine rX10i_150 ?_
  simp only [bX10i_150, run, Nat.reduceAdd, lg, st1, st2, lkill, lset, fvv, sfv, kind3, cat1, retI, retA, List.length_cons, List.length_nil, true_and, and_true, or_true, true_or, qX10i, v19.1.2.1, kR, zN_sR, show ((20 : Int32)).toNatClampNeg = 20 by decide, not_true_eq_false, not_false_eq_true, false_implies, true_and, and_true, tti]
  refine ⟨by decide, by decide, by decide, by decide, v19.k9, ?_⟩
  have v20 := InvM.st (kd := (2, 20)) (fld := 22) v19 (by decide) (by decide) (by decide)
  generalize sR (nw g19 (2, 20)) 99 22 (zN g19) = g20 at v20 ⊢
  refine rX10i_158 ?_
  simp only [bX10i_158, run, Nat.reduceAdd, lg, st1, st2, lkill, lset, fvv, sfv, kind3, cat1, retI, retA, List.length_cons, List.length_nil, true_and, and_true, or_true, true_or, qX10i, v20.1.2.1, kR, zN_sR, show ((20 : Int32)).toNatClampNeg = 20 by decide, not_true_eq_false, not_false_eq_true, false_implies, true_and, and_true, tti]
  refine ⟨by decide, by decide, by decide, by decide, v20.k9, ?_⟩
  have v21 := InvM.st (kd := (2, 20)) (fld := 23) v20 (by decide) (by decide) (by decide)
  generalize sR (nw g20 (2, 20)) 99 23 (zN g20) = g21 at v21 ⊢
  refine rX10i_166 ?_
  simp only [bX10i_166, run, Nat.reduceAdd, lg, st1, st2, lkill, lset, fvv, sfv, kind3, cat1, retI, retA, List.length_cons, List.length_nil, true_and, and_true, or_true, true_or, qX10i, v21.1.2.1, kR, zN_sR, show ((10 : Int32)).toNatClampNeg = 10 by decide, not_true_eq_false, not_false_eq_true, false_implies, true_and, and_true, tti]
  refine ⟨by decide, by decide, by decide, by decide, v21.k9, ?_⟩
  have v22 := InvM.st (kd := (2, 10)) (fld := 24) v21 (by decide) (by decide) (by decide)
  generalize sR (nw g21 (2, 10)) 99 24 (zN g21) = g22 at v22 ⊢
  refine rX10i_174 ?_
  simp only [bX10i_174, run, Nat.reduceAdd, lg, st1, st2, lkill, lset, fvv, sfv, kind3, cat1, retI, retA, List.length_cons, List.length_nil, true_and, and_true, or_true, true_or, qX10i, v22.1.2.1, kR, zN_sR, show ((10 : Int32)).toNatClampNeg = 10 by decide, not_true_eq_false, not_false_eq_true, false_implies, true_and, and_true, tti]
  refine ⟨by decide, by decide, by decide, by decide, v22.k9, ?_⟩
  have v23 := InvM.st (kd := (2, 10)) (fld := 25) v22 (by decide) (by decide) (by decide)
  generalize sR (nw g22 (2, 10)) 99 25 (zN g22) = g23 at v23 ⊢
  refine rX10i_182 ?_
  simp only [bX10i_182, run, Nat.reduceAdd, lg, st1, st2, lkill, lset, fvv, sfv, kind3, cat1, retI, retA, List.length_cons, List.length_nil, true_and, and_true, or_true, true_or, qX10i, v23.1.2.1, kR, zN_sR, show ((170 : Int32)).toNatClampNeg = 170 by decide, not_true_eq_false, not_false_eq_true, false_implies, true_and, and_true, tti]
  refine ⟨by decide, by decide, by decide, by decide, v23.k9, ?_⟩
  have v24 := InvM.st (kd := (2, 170)) (fld := 26) v23 (by decide) (by decide) (by decide)
  generalize sR (nw g23 (2, 170)) 99 26 (zN g23) = g24 at v24 ⊢
  refine rX10i_191 ?_
  simp only [bX10i_191, run, Nat.reduceAdd, lg, st1, st2, lkill, lset, fvv, sfv, kind3, cat1, retI, retA, List.length_cons, List.length_nil, true_and, and_true, or_true, true_or, qX10i]
  obtain ⟨⟨n, k9, ks⟩, rs, ⟨i3, i4, i11, i0⟩, kp⟩ := v24
  have ms : ModS g24 := ⟨k9, fun i hi h0 => rs i hi h0 (by
    have : ∀ i, i < 27 → mfd i < 122 := by decide
    exact this i hi), fun k hk => (ks k hk).1⟩
  have lp : ∀ d m, m + d = 12 → ∀ h2, zK h2 = zK g24 → zR h2 = zR g24 → zI h2 = zI g24 → zN h2 = zN g24 → Kp (fun a => a = 99) h h2 → (∀ j, j < m → zL h2 101 j = 1) → Ex g mX10_init 193 [vR 99, vI (nI m)] [] h2 (22, 1139) Q := by
    intro d
    induction d with
    | zero =>
      intro m hm h2 ek er ei en kp2 zl
      have e : m = 12 := by omega
      subst e
      refine rX10_init_193 ?_
      simp only [bX10_init_193, run, Nat.reduceAdd, lg, st1, st2, lkill, lset, fvv, sfv, kind3, cat1, retI, retA, List.length_cons, List.length_nil, true_and, and_true, or_true, true_or, qX10_init, show ((12 : Int32) ≤ nI 12) = True by decide, not_true_eq_false, not_false_eq_true, false_implies, true_and, and_true, tti]
      refine rX10_init_212 ?_
      simp only [bX10_init_212, run, Nat.reduceAdd, lg, st1, st2, lkill, lset, fvv, sfv, kind3, cat1, retI, retA, List.length_cons, List.length_nil, true_and, and_true, or_true, true_or, qX10_init]
      have ii : ∀ j, j < 22 → zI h2 (100 + j) = fun _ => 0 := fun j hj => by rw [ei]; exact (ks j hj).2.1
      refine hq h2 (by rw [en, n]) kp2 ⟨⟨by rw [ek]; exact k9, by rw [er]; exact ms.2.1, by rw [ek]; exact ms.2.2⟩, ⟨by rw [ei, i3]; rfl, by decide⟩, fun s hs => ⟨(by decide : (0 : Nat) < 64), by rw [ii 0 (by decide)]; rfl⟩, fun m hm => ⟨wok_nil, zl m hm⟩, ⟨by rw [ei, i4]; rfl, by rw [ei, i11]; rfl, fun l h0 hl => ?_, fun l hl => ⟨by rw [ii 3 (by decide)]; rfl, fun i hi => absurd hi (Nat.not_lt_zero _)⟩, fun i hi => absurd hi (Nat.not_lt_zero _)⟩, fun l _ _ => by rw [ii 3 (by decide)], fun i _ => by rw [ii 12 (by decide)], ?_⟩
      · change l < 1 at hl
        omega
      · refine ⟨by decide, by decide, fun l h0 hl => ?_, fun l _ => Nat.zero_le _, Nat.zero_le _, fun i hi => absurd hi (Nat.not_lt_zero _)⟩
        change l < 1 at hl
        omega
    | succ d ih =>
      intro m hm h2 ek er ei en kp2 zl
      have km : (nI m).toNatClampNeg = m := nI_clamp (by omega)
      refine rX10_init_193 ?_
      simp only [bX10_init_193, run, Nat.reduceAdd, lg, st1, st2, lkill, lset, fvv, sfv, kind3, cat1, retI, retA, List.length_cons, List.length_nil, true_and, and_true, or_true, true_or, qX10_init, show ((12 : Int32) ≤ nI m) ↔ False from ⟨nI_ge (b := 12) (by omega) (by omega), False.elim⟩, ek, er, ms.1, ms.R2, ms.K101, km, nI_1, not_true_eq_false, not_false_eq_true, false_implies, true_and, and_true, tti]
      refine ⟨vp_in_nI (by omega) (by omega), ih (m + 1) (by omega) _ ek er ei en ⟨kp2.1, kp2.2.1, fun a ha hs => (kp2.2.2 a ha hs).tr (Sm.sL (by omega))⟩ (fun j hj => ?_)⟩
      rw [zL_sL]
      by_cases e : j = m
      · rw [e, up1_s]
      · rw [up1_n _ _ e]; exact zl j (by omega)
  exact lp 12 0 rfl g24 rfl rfl rfl rfl kp (fun j hj => absurd hj (Nat.not_lt_zero _))
