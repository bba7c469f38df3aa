/-! ===== the loop (by program) ===== -/
theorem sL_law__4 {g : Gp} {L rest : List AV} {h : AH} {u : Nat × Nat} {Q : PQ} {x : Nat} (hu : u.1 + 94 ≤ 20000 ∧ u.2 + 3074 ≤ 900000) (hx : x ≠ 0) (ev : Ev g mX9_init [vR x] h (cont g mL_law_ 7 L rest (u.1 + 94, u.2 + 3074) Q)) (hr : rest.length ≤ 4 := by exact Nat.le_of_ble_eq_true rfl) : Ex g mL_law_ 4 L (vR x :: rest) h u Q := Ex.callI (av := []) rfl mX9_init_ok rfl rfl rfl lkL_112 imX9_init hx (by decide) hu.1 hu.2 hr (by decide +kernel) ev (fun _ _ k => k) (fun _ _ z => z)
theorem sL_law__12 {g : Gp} {L rest : List AV} {h : AH} {u : Nat × Nat} {Q : PQ} {x : Nat} (hu : u.1 + 22 ≤ 20000 ∧ u.2 + 1139 ≤ 900000) (hx : x ≠ 0) (ev : Ev g mX10_init [vR x] h (cont g mL_law_ 15 L rest (u.1 + 22, u.2 + 1139) Q)) (hr : rest.length ≤ 4 := by exact Nat.le_of_ble_eq_true rfl) : Ex g mL_law_ 12 L (vR x :: rest) h u Q := Ex.callI (av := []) rfl mX10_init_ok rfl rfl rfl lkL_115 imX10_init hx (by decide) hu.1 hu.2 hr (by decide +kernel) ev (fun _ _ k => k) (fun _ _ z => z)
def bL_law__0 : List OP := [(.new 8, 3, (9, 0, 0), vU), (.dup, 1, (0, 0, 0), vU)]
theorem oL_law__0 : okAt mL_law_ bL_law__0 0 = true := by decide +kernel
theorem rL_law__0 {g : Gp} {Q : PQ} {L st : List AV} {h : AH} {u : Nat × Nat} (hr : run mL_law_ Q (fun pc L st h u => Ex g mL_law_ pc L st h u Q) bL_law__0 0 L st h u) : Ex g mL_law_ 0 L st h u Q := run_ok (M := mL_law_) cfL_ok (fun _ _ _ _ _ k => k) _ _ _ _ _ _ oL_law__0 hr
def bL_law__7 : List OP := [(.astore_n 1, 1, (1, 0, 0), vU), (.new 113, 3, (10, 0, 0), vU), (.dup, 1, (0, 0, 0), vU)]
theorem oL_law__7 : okAt mL_law_ bL_law__7 7 = true := by decide +kernel
theorem rL_law__7 {g : Gp} {Q : PQ} {L st : List AV} {h : AH} {u : Nat × Nat} (hr : run mL_law_ Q (fun pc L st h u => Ex g mL_law_ pc L st h u Q) bL_law__7 7 L st h u) : Ex g mL_law_ 7 L st h u Q := run_ok (M := mL_law_) cfL_ok (fun _ _ _ _ _ k => k) _ _ _ _ _ _ oL_law__7 hr
def bL_law__15 : List OP := [(.astore_n 2, 1, (2, 0, 0), vU), (.iconst 1, 1, (0, 0, 0), vI 1), (.newarray .long, 2, (3, 0, 0), vU), (.astore_n 3, 1, (3, 0, 0), vU), (.iconst 1, 1, (0, 0, 0), vI 1), (.newarray .double, 2, (5, 0, 0), vU), (.astore 4, 2, (4, 0, 0), vU), (.iconst 0, 1, (0, 0, 0), vI 0), (.istore 5, 2, (5, 0, 0), vU)]
theorem oL_law__15 : okAt mL_law_ bL_law__15 15 = true := by decide +kernel
theorem rL_law__15 {g : Gp} {Q : PQ} {L st : List AV} {h : AH} {u : Nat × Nat} (hr : run mL_law_ Q (fun pc L st h u => Ex g mL_law_ pc L st h u Q) bL_law__15 15 L st h u) : Ex g mL_law_ 15 L st h u Q := run_ok (M := mL_law_) cfL_ok (fun _ _ _ _ _ k => k) _ _ _ _ _ _ oL_law__15 hr
def bL_law__28 : List OP := [(.iload 5, 2, (5, 0, 0), vU), (.aload_n 0, 1, (0, 0, 0), vU)]
theorem oL_law__28 : okAt mL_law_ bL_law__28 28 = true := by decide +kernel
theorem rL_law__28 {g : Gp} {Q : PQ} {L st : List AV} {h : AH} {u : Nat × Nat} (hr : run mL_law_ Q (fun pc L st h u => Ex g mL_law_ pc L st h u Q) bL_law__28 28 L st h u) : Ex g mL_law_ 28 L st h u Q := run_ok (M := mL_law_) cfL_ok (fun _ _ _ _ _ k => k) _ _ _ _ _ _ oL_law__28 hr
def bL_law__32 : List OP := [(.bipush 6, 2, (0, 0, 0), vI 6), (.isub, 1, (0, 0, 0), vU), (.if_icmp .gt 2307, 3, (2342, 0, 0), vU), (.aload_n 0, 1, (0, 0, 0), vU), (.iload 5, 2, (5, 0, 0), vU)]
theorem oL_law__32 : okAt mL_law_ bL_law__32 32 = true := by decide +kernel
theorem rL_law__32 {g : Gp} {Q : PQ} {L st : List AV} {h : AH} {u : Nat × Nat} (hr : run mL_law_ Q (fun pc L st h u => Ex g mL_law_ pc L st h u Q) bL_law__32 32 L st h u) : Ex g mL_law_ 32 L st h u Q := run_ok (M := mL_law_) cfL_ok (fun _ _ _ _ _ k => k) _ _ _ _ _ _ oL_law__32 hr
def bL_law__42 : List OP := [(.bipush 63, 2, (0, 0, 0), vI 63), (.iand, 1, (0, 0, 0), vU)]
theorem oL_law__42 : okAt mL_law_ bL_law__42 42 = true := by decide +kernel
theorem rL_law__42 {g : Gp} {Q : PQ} {L st : List AV} {h : AH} {u : Nat × Nat} (hr : run mL_law_ Q (fun pc L st h u => Ex g mL_law_ pc L st h u Q) bL_law__42 42 L st h u) : Ex g mL_law_ 42 L st h u Q := run_ok (M := mL_law_) cfL_ok (fun _ _ _ _ _ k => k) _ _ _ _ _ _ oL_law__42 hr
def bL_law__2336 : List OP := [(.iinc 5 6, 3, (5, 0, 0), vI 6), (.goto (-2311), 3, (28, 0, 0), vU)]
theorem oL_law__2336 : okAt mL_law_ bL_law__2336 2336 = true := by decide +kernel
theorem rL_law__2336 {g : Gp} {Q : PQ} {L st : List AV} {h : AH} {u : Nat × Nat} (hr : run mL_law_ Q (fun pc L st h u => Ex g mL_law_ pc L st h u Q) bL_law__2336 2336 L st h u) : Ex g mL_law_ 2336 L st h u Q := run_ok (M := mL_law_) cfL_ok (fun _ _ _ _ _ k => k) _ _ _ _ _ _ oL_law__2336 hr
def bL_law__2342 : List OP := [(.iconst 1, 1, (0, 0, 0), vI 1), (.ireturn, 1, (0, 0, 0), vU)]
theorem oL_law__2342 : okAt mL_law_ bL_law__2342 2342 = true := by decide +kernel
theorem rL_law__2342 {g : Gp} {Q : PQ} {L st : List AV} {h : AH} {u : Nat × Nat} (hr : run mL_law_ Q (fun pc L st h u => Ex g mL_law_ pc L st h u Q) bL_law__2342 2342 L st h u) : Ex g mL_law_ 2342 L st h u Q := run_ok (M := mL_law_) cfL_ok (fun _ _ _ _ _ k => k) _ _ _ _ _ _ oL_law__2342 hr
def bL_law__38 : List OP := [(.aload_n 0, 1, (0, 0, 0), vU), (.iload 5, 2, (5, 0, 0), vU)]
theorem oL_law__38 : okAt mL_law_ bL_law__38 38 = true := by decide +kernel
theorem rL_law__38 {g : Gp} {Q : PQ} {L st : List AV} {h : AH} {u : Nat × Nat} (hr : run mL_law_ Q (fun pc L st h u => Ex g mL_law_ pc L st h u Q) bL_law__38 38 L st h u) : Ex g mL_law_ 38 L st h u Q := run_ok (M := mL_law_) cfL_ok (fun _ _ _ _ _ k => k) _ _ _ _ _ _ oL_law__38 hr
theorem len6 {n : Nat} (hn : n ≤ 3072) : (nI n - 6).toInt = (n : Int) - 6 := by
  by_cases h : 6 ≤ n
  · obtain ⟨k, rfl⟩ : ∃ k, n = k + 6 := ⟨n - 6, by omega⟩
    rw [← nI_add k 6, show (nI 6) = (6 : Int32) from rfl, Int32.add_sub_cancel, nI_toInt (by omega)]
    omega
  · rcases (show n = 0 ∨ n = 1 ∨ n = 2 ∨ n = 3 ∨ n = 4 ∨ n = 5 by omega) with rfl | rfl | rfl | rfl | rfl | rfl <;> decide
theorem len6_lt {n i : Nat} (hn : n ≤ 3072) (hi : i ≤ 3100) : nI n - 6 < nI i ↔ n < i + 6 := by
  rw [Int32.lt_iff_toInt_lt, len6 hn, nI_toInt (by omega)]
  omega
theorem law_loop {g : Gp} {Q : PQ} (hg : gl g ≤ 3072) (hq : ∀ h', Q (.inl (some (vI 1))) h') : ∀ (d i : Nat) (h : AH) (st : St) (u : Nat × Nat), gl g ≤ i + 6 * d → i ≤ 3072 → FamS h st → ModT h st → Kd h → (u.1 + 30 * d ≤ 20000 ∧ u.2 + 1700 * d ≤ 900000) → Ex g mL_law_ 28 (LW9 i) [] h u Q := by
  intro d
  induction d with
  | zero =>
    intro i h st u hd hi hf hm kd hu
    refine rL_law__28 ?_
    simp only [bL_law__28, run, Nat.reduceAdd, lg, st1, st2, lkill, lset, fvv, sfv, kind3, cat1, retI, retA, List.length_cons, List.length_nil, true_and, and_true, or_true, true_or, qL_law_]
    refine x_slen (by decide +kernel) ?_
    refine rL_law__32 ?_
    simp only [bL_law__32, run, Nat.reduceAdd, lg, st1, st2, lkill, lset, fvv, sfv, kind3, cat1, retI, retA, List.length_cons, List.length_nil, true_and, and_true, or_true, true_or, qL_law_, show nI (gl g) - 6 < nI i ↔ True from ⟨fun _ => trivial, fun _ => (len6_lt hg (by omega)).mpr (by omega)⟩, not_true_eq_false, not_false_eq_true, false_implies, true_and, and_true, tti, true_implies]
    refine rL_law__2342 ?_
    simp only [bL_law__2342, run, Nat.reduceAdd, lg, st1, st2, lkill, lset, fvv, sfv, kind3, cat1, retI, retA, List.length_cons, List.length_nil, true_and, and_true, or_true, true_or, qL_law_, narrow_b1]
    exact hq h
  | succ d ih =>
    intro i h st u hd hi hf hm kd hu
    refine rL_law__28 ?_
    simp only [bL_law__28, run, Nat.reduceAdd, lg, st1, st2, lkill, lset, fvv, sfv, kind3, cat1, retI, retA, List.length_cons, List.length_nil, true_and, and_true, or_true, true_or, qL_law_]
    refine x_slen (by decide +kernel) ?_
    by_cases hl : gl g < i + 6
    · refine rL_law__32 ?_
      simp only [bL_law__32, run, Nat.reduceAdd, lg, st1, st2, lkill, lset, fvv, sfv, kind3, cat1, retI, retA, List.length_cons, List.length_nil, true_and, and_true, or_true, true_or, qL_law_, show nI (gl g) - 6 < nI i ↔ True from ⟨fun _ => trivial, fun _ => (len6_lt hg (by omega)).mpr hl⟩, not_true_eq_false, not_false_eq_true, false_implies, true_and, and_true, tti, true_implies]
      refine rL_law__2342 ?_
      simp only [bL_law__2342, run, Nat.reduceAdd, lg, st1, st2, lkill, lset, fvv, sfv, kind3, cat1, retI, retA, List.length_cons, List.length_nil, true_and, and_true, or_true, true_or, qL_law_, narrow_b1]
      exact hq h
    · refine rL_law__32 ?_
      simp only [bL_law__32, run, Nat.reduceAdd, lg, st1, st2, lkill, lset, fvv, sfv, kind3, cat1, retI, retA, List.length_cons, List.length_nil, true_and, and_true, or_true, true_or, qL_law_, show nI (gl g) - 6 < nI i ↔ False from ⟨fun q => hl ((len6_lt hg (by omega)).mp q), False.elim⟩, not_true_eq_false, not_false_eq_true, false_implies, true_and, and_true, tti, false_implies, not_false_eq_true, true_implies]
      refine x_sload (vp_in_nI (show i < gl g by omega) (by omega)) (by decide +kernel) ?_
      refine rL_law__42 ?_
      simp only [bL_law__42, run, Nat.reduceAdd, lg, st1, st2, lkill, lset, fvv, sfv, kind3, cat1, retI, retA, List.length_cons, List.length_nil, true_and, and_true, or_true, true_or, qL_law_]
      have nxt : ∀ h' (st : St), FamS h' st → ModT h' st → Kd h' → Ex g mL_law_ 2336 (LW9 i) [] h' (u.1 + 30, u.2 + 1700) Q := fun h' st' a b c => by
        refine rL_law__2336 ?_
        simp only [bL_law__2336, run, Nat.reduceAdd, lg, st1, st2, lkill, lset, fvv, sfv, kind3, cat1, retI, retA, List.length_cons, List.length_nil, true_and, and_true, or_true, true_or, qL_law_]
        rw [show nI i + 6 = nI (i + 6) from nI_add i 6]
        exact ih (i + 6) h' st' (u.1 + 30, u.2 + 1700) (by omega) (by omega) a b c ⟨by show u.1 + 30 + 30 * d ≤ 20000; omega, by show u.2 + 1700 + 1700 * d ≤ 900000; omega⟩
      have hu1 : u.1 + 30 ≤ 20000 ∧ u.2 + 1700 ≤ 900000 := by omega
      have hi5 : i + 5 < gl g := by omega
      obtain ⟨f, gv, op, D⟩ := st
      generalize (gx g (nI i).toNatClampNeg &&& 63) = x
      by_cases h1 : x.toInt < 0
      · exact x_tout sw_d (Or.inl h1) (by decide) (Ex.wid (by dsimp only; omega) (by dsimp only; omega) hu1.1 hu1.2 (nxt h _ hf hm kd))
      by_cases h2 : 32 < x.toInt
      · exact x_tout sw_d (Or.inr h2) (by decide) (Ex.wid (by dsimp only; omega) (by dsimp only; omega) hu1.1 hu1.2 (nxt h _ hf hm kd))
      obtain ⟨k, hk, hk2⟩ : ∃ k, (x.toInt - 0).toNat = k ∧ k ≤ 32 := ⟨_, rfl, by omega⟩
      by_cases b0_32 : k ≤ 16
      · by_cases b0_16 : k ≤ 8
        · by_cases b0_8 : k ≤ 4
          · by_cases b0_4 : k ≤ 2
            · by_cases b0_2 : k ≤ 1
              · by_cases b0_1 : k ≤ 0
                · obtain rfl : k = 0 := by omega
                  exact x_tin (off := 147) sw_d h1 h2 (by rw [hk]; rfl) (by decide) (o_0 hg hi5 hf hm kd hu1 nxt)
                · obtain rfl : k = 1 := by omega
                  exact x_tin (off := 215) sw_d h1 h2 (by rw [hk]; rfl) (by decide) (o_1 hg hi5 hf hm kd hu1 nxt)
              · obtain rfl : k = 2 := by omega
                exact x_tin (off := 271) sw_d h1 h2 (by rw [hk]; rfl) (by decide) (o_2 hg hi5 hf hm kd hu1 nxt)
            · by_cases b3_4 : k ≤ 3
              · obtain rfl : k = 3 := by omega
                exact x_tin (off := 327) sw_d h1 h2 (by rw [hk]; rfl) (by decide) (o_3 hg hi5 hf hm kd hu1 nxt)
              · obtain rfl : k = 4 := by omega
                exact x_tin (off := 383) sw_d h1 h2 (by rw [hk]; rfl) (by decide) (o_4 hg hi5 hf hm kd hu1 nxt)
          · by_cases b5_8 : k ≤ 6
            · by_cases b5_6 : k ≤ 5
              · obtain rfl : k = 5 := by omega
                exact x_tin (off := 487) sw_d h1 h2 (by rw [hk]; rfl) (by decide) (o_5 hg hi5 hf hm kd hu1 nxt)
              · obtain rfl : k = 6 := by omega
                exact x_tin (off := 543) sw_d h1 h2 (by rw [hk]; rfl) (by decide) (o_6 hg hi5 hf hm kd hu1 nxt)
            · by_cases b7_8 : k ≤ 7
              · obtain rfl : k = 7 := by omega
                exact x_tin (off := 635) sw_d h1 h2 (by rw [hk]; rfl) (by decide) (o_7 hg hi5 hf hm kd hu1 nxt)
              · obtain rfl : k = 8 := by omega
                exact x_tin (off := 648) sw_d h1 h2 (by rw [hk]; rfl) (by decide) (o_8 hg hi5 hf hm kd hu1 nxt)
        · by_cases b9_16 : k ≤ 12
          · by_cases b9_12 : k ≤ 10
            · by_cases b9_10 : k ≤ 9
              · obtain rfl : k = 9 := by omega
                exact x_tin (off := 704) sw_d h1 h2 (by rw [hk]; rfl) (by decide) (o_9 hg hi5 hf hm kd hu1 nxt)
              · obtain rfl : k = 10 := by omega
                exact x_tin (off := 717) sw_d h1 h2 (by rw [hk]; rfl) (by decide) (o_10 hg hi5 hf hm kd hu1 nxt)
            · by_cases b11_12 : k ≤ 11
              · obtain rfl : k = 11 := by omega
                exact x_tin (off := 785) sw_d h1 h2 (by rw [hk]; rfl) (by decide) (o_11 hg hi5 hf hm kd hu1 nxt)
              · obtain rfl : k = 12 := by omega
                exact x_tin (off := 853) sw_d h1 h2 (by rw [hk]; rfl) (by decide) (o_12 hg hi5 hf hm kd hu1 nxt)
          · by_cases b13_16 : k ≤ 14
            · by_cases b13_14 : k ≤ 13
              · obtain rfl : k = 13 := by omega
                exact x_tin (off := 933) sw_d h1 h2 (by rw [hk]; rfl) (by decide) (o_13 hg hi5 hf hm kd hu1 nxt)
              · obtain rfl : k = 14 := by omega
                exact x_tin (off := 1001) sw_d h1 h2 (by rw [hk]; rfl) (by decide) (o_14 hg hi5 hf hm kd hu1 nxt)
            · by_cases b15_16 : k ≤ 15
              · obtain rfl : k = 15 := by omega
                exact x_tin (off := 1069) sw_d h1 h2 (by rw [hk]; rfl) (by decide) (o_15 hg hi5 hf hm kd hu1 nxt)
              · obtain rfl : k = 16 := by omega
                exact x_tin (off := 1125) sw_d h1 h2 (by rw [hk]; rfl) (by decide) (o_16 hg hi5 hf hm kd hu1 nxt)
      · by_cases b17_32 : k ≤ 24
        · by_cases b17_24 : k ≤ 20
          · by_cases b17_20 : k ≤ 18
            · by_cases b17_18 : k ≤ 17
              · obtain rfl : k = 17 := by omega
                exact x_tin (off := 1181) sw_d h1 h2 (by rw [hk]; rfl) (by decide) (o_17 hg hi5 hf hm kd hu1 nxt)
              · obtain rfl : k = 18 := by omega
                exact x_tin (off := 1237) sw_d h1 h2 (by rw [hk]; rfl) (by decide) (o_18 hg hi5 hf hm kd hu1 nxt)
            · by_cases b19_20 : k ≤ 19
              · obtain rfl : k = 19 := by omega
                exact x_tin (off := 1317) sw_d h1 h2 (by rw [hk]; rfl) (by decide) (o_19 hg hi5 hf hm kd hu1 nxt)
              · obtain rfl : k = 20 := by omega
                exact x_tin (off := 1397) sw_d h1 h2 (by rw [hk]; rfl) (by decide) (o_20 hg hi5 hf hm kd hu1 nxt)
          · by_cases b21_24 : k ≤ 22
            · by_cases b21_22 : k ≤ 21
              · obtain rfl : k = 21 := by omega
                exact x_tin (off := 1489) sw_d h1 h2 (by rw [hk]; rfl) (by decide) (o_21 hg hi5 hf hm kd hu1 nxt)
              · obtain rfl : k = 22 := by omega
                exact x_tin (off := 1581) sw_d h1 h2 (by rw [hk]; rfl) (by decide) (o_22 hg hi5 hf hm kd hu1 nxt)
            · by_cases b23_24 : k ≤ 23
              · obtain rfl : k = 23 := by omega
                exact x_tin (off := 1661) sw_d h1 h2 (by rw [hk]; rfl) (by decide) (o_23 hg hi5 hf hm kd hu1 nxt)
              · obtain rfl : k = 24 := by omega
                exact x_tin (off := 1750) sw_d h1 h2 (by rw [hk]; rfl) (by decide) (o_24 hg hi5 hf hm kd hu1 nxt)
        · by_cases b25_32 : k ≤ 28
          · by_cases b25_28 : k ≤ 26
            · by_cases b25_26 : k ≤ 25
              · obtain rfl : k = 25 := by omega
                exact x_tin (off := 1806) sw_d h1 h2 (by rw [hk]; rfl) (by decide) (o_25 hg hi5 hf hm kd hu1 nxt)
              · obtain rfl : k = 26 := by omega
                exact x_tin (off := 1874) sw_d h1 h2 (by rw [hk]; rfl) (by decide) (o_26 hg hi5 hf hm kd hu1 nxt)
            · by_cases b27_28 : k ≤ 27
              · obtain rfl : k = 27 := by omega
                exact x_tin (off := 1954) sw_d h1 h2 (by rw [hk]; rfl) (by decide) (o_27 hg hi5 hf hm kd hu1 nxt)
              · obtain rfl : k = 28 := by omega
                exact x_tin (off := 2010) sw_d h1 h2 (by rw [hk]; rfl) (by decide) (o_28 hg hi5 hf hm kd hu1 nxt)
          · by_cases b29_32 : k ≤ 30
            · by_cases b29_30 : k ≤ 29
              · obtain rfl : k = 29 := by omega
                exact x_tin (off := 2078) sw_d h1 h2 (by rw [hk]; rfl) (by decide) (o_29 hg hi5 hf hm kd hu1 nxt)
              · obtain rfl : k = 30 := by omega
                exact x_tin (off := 2146) sw_d h1 h2 (by rw [hk]; rfl) (by decide) (o_30 hg hi5 hf hm kd hu1 nxt)
            · by_cases b31_32 : k ≤ 31
              · obtain rfl : k = 31 := by omega
                exact x_tin (off := 2202) sw_d h1 h2 (by rw [hk]; rfl) (by decide) (o_31 hg hi5 hf hm kd hu1 nxt)
              · obtain rfl : k = 32 := by omega
                exact x_tin (off := 2277) sw_d h1 h2 (by rw [hk]; rfl) (by decide) (o_32 hg hi5 hf hm kd hu1 nxt)
theorem law_all {g : Gp} {Q : PQ} {h : AH} (hg : gl g ≤ 3072) (hn : zN h = 4) (hq : ∀ h', Q (.inl (some (vI 1))) h') : Ex g mL_law_ 0 [vR 1, vU, vU, vU, vU, vU, vU, vU, vU] [] h (0, 0) Q := by
  refine rL_law__0 ?_
  simp only [bL_law__0, run, Nat.reduceAdd, lg, st1, st2, lkill, lset, fvv, sfv, kind3, cat1, retI, retA, List.length_cons, List.length_nil, true_and, and_true, or_true, true_or, qL_law_, hn]
  refine ⟨by decide, by decide, sL_law__4 (by decide) (by decide) (e_famInit (by rw [zK_nwE, hn, if_pos rfl]) (by rw [zN_nw, hn]) fun h1 n1 f1 => ?_)⟩
  simp only [cont, Option.toList, List.cons_append, List.nil_append]
  refine Ex.wf (fun w1 => ?_)
  refine rL_law__7 ?_
  simp only [bL_law__7, run, Nat.reduceAdd, lg, st1, st2, lkill, lset, fvv, sfv, kind3, cat1, retI, retA, List.length_cons, List.length_nil, true_and, and_true, or_true, true_or, qL_law_, n1]
  refine ⟨by decide, by decide, sL_law__12 (by decide) (by decide) (e_modInit (by rw [zK_nwE, n1, if_pos rfl]) (by rw [zN_nw, n1]) (by rw [zI_nwE, n1, if_pos rfl]) fun h2 n2 kp m2 => ?_)⟩
  simp only [cont, Option.toList, List.cons_append, List.nil_append]
  have kp2 : Kp (fun a => a = 99) h1 h2 := (Kp.nw (S := fun a => a = 99)).tr kp
  have f2 : FamR h2 (fun _ => 0) (fun _ => []) 0 (1, fun _ => 0, fun _ => [], []) := f1.kz w1 (by omega) kp2 fun a q1 q2 => by omega
  refine Ex.wf (fun w2 => ?_)
  refine rL_law__15 ?_
  simp only [bL_law__15, run, Nat.reduceAdd, lg, st1, st2, lkill, lset, fvv, sfv, kind3, cat1, retI, retA, List.length_cons, List.length_nil, true_and, and_true, or_true, true_or, qL_law_, n2]
  have c1 : (1 : Int32).toNatClampNeg = 1 := rfl
  rw [c1, zN_nw, n2]
  refine ⟨by decide, by decide, by decide, by decide, by decide, by decide, by decide, by decide, ?_⟩
  have kp3 : Kp (fun _ => False) h2 (nw (nw h2 (3, 1)) (5, 1)) := Kp.nw.tr Kp.nw
  refine law_loop hg hq 512 0 _ (fun _ => 0, fun _ => [], 0, 1, fun _ => 0, fun _ => [], []) _ (by omega) (by decide) (f2.kz w2 (by omega) kp3 fun a _ q2 => q2.elim) (m2.kp w2 kp3 fun a _ _ q => q) ⟨?_, ?_⟩ (by decide)
  · rw [zK_nwE, if_neg (by rw [zN_nw, n2]; decide), zK_nwE, if_pos n2.symm]
  · rw [zK_nwE, if_pos (by rw [zN_nw, n2])]

