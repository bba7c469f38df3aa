/-! ===== pools and methods (by program) ===== -/
theorem par_ok {y : MethodName} {n : Nat} (h : (parseMethodDescriptor y.desc).map (fun d => d.parameters.length) = some n) : ∀ sig, parseMethodDescriptor y.desc = some sig → n = sig.parameters.length := by
  intro sig h2
  rw [h2] at h
  exact (Option.some.inj h).symm
theorem lm_0 {w : Cond} {i : Nat} (h : (k2_sels lw_privs)[i]? = some w) : w ∈ lw_tbl := List.mem_append_left _ (List.mem_of_getElem? h)
theorem lm_1 {w : Cond} {i : Nat} (h : tables_1_1[i]? = some w) : w ∈ lw_tbl := List.mem_append_right _ (List.mem_append_left _ (List.mem_of_getElem? h))
theorem lm_2 {w : Cond} {i : Nat} (h : tables_1_2[i]? = some w) : w ∈ lw_tbl := List.mem_append_right _ (List.mem_append_right _ (List.mem_append_left _ (List.mem_of_getElem? h)))
theorem lm_3 {w : Cond} {i : Nat} (h : tables_1_3[i]? = some w) : w ∈ lw_tbl := List.mem_append_right _ (List.mem_append_right _ (List.mem_append_right _ (List.mem_append_left _ (List.mem_of_getElem? h))))
theorem lm_4 {w : Cond} {i : Nat} (h : tables_1_4[i]? = some w) : w ∈ lw_tbl := List.mem_append_right _ (List.mem_append_right _ (List.mem_append_right _ (List.mem_append_right _ (List.mem_append_left _ (List.mem_of_getElem? h)))))
theorem lm_5 {w : Cond} {i : Nat} (h : tables_1_5[i]? = some w) : w ∈ lw_tbl := List.mem_append_right _ (List.mem_append_right _ (List.mem_append_right _ (List.mem_append_right _ (List.mem_append_right _ (List.mem_append_left _ (List.mem_of_getElem? h))))))
theorem lm_6 {w : Cond} {i : Nat} (h : tables_1_6[i]? = some w) : w ∈ lw_tbl := List.mem_append_right _ (List.mem_append_right _ (List.mem_append_right _ (List.mem_append_right _ (List.mem_append_right _ (List.mem_append_right _ (List.mem_append_left _ (List.mem_of_getElem? h)))))))
theorem lm_7 {w : Cond} {i : Nat} (h : tables_1_7[i]? = some w) : w ∈ lw_tbl := List.mem_append_right _ (List.mem_append_right _ (List.mem_append_right _ (List.mem_append_right _ (List.mem_append_right _ (List.mem_append_right _ (List.mem_append_right _ (List.mem_append_left _ (List.mem_of_getElem? h))))))))
theorem lm_8 {w : Cond} {i : Nat} (h : tables_1_8[i]? = some w) : w ∈ lw_tbl := List.mem_append_right _ (List.mem_append_right _ (List.mem_append_right _ (List.mem_append_right _ (List.mem_append_right _ (List.mem_append_right _ (List.mem_append_right _ (List.mem_append_right _ (List.mem_of_getElem? h))))))))
theorem lg_0 {w : Cond} {i : Nat} (h : (k2_sels lw_privs)[i]? = some w) (g : goodWord w = true) : w ∈ lw_g := lg_mem (lm_0 h) g
theorem ln_0 {w : Cond} {i : Nat} (h : (k2_sels lw_privs)[i]? = some w) (g : isN w = true) : w ∈ lw_n := ln_mem (lm_0 h) g
theorem lg_1 {w : Cond} {i : Nat} (h : tables_1_1[i]? = some w) (g : goodWord w = true) : w ∈ lw_g := lg_mem (lm_1 h) g
theorem ln_1 {w : Cond} {i : Nat} (h : tables_1_1[i]? = some w) (g : isN w = true) : w ∈ lw_n := ln_mem (lm_1 h) g
theorem lg_2 {w : Cond} {i : Nat} (h : tables_1_2[i]? = some w) (g : goodWord w = true) : w ∈ lw_g := lg_mem (lm_2 h) g
theorem ln_2 {w : Cond} {i : Nat} (h : tables_1_2[i]? = some w) (g : isN w = true) : w ∈ lw_n := ln_mem (lm_2 h) g
theorem lg_3 {w : Cond} {i : Nat} (h : tables_1_3[i]? = some w) (g : goodWord w = true) : w ∈ lw_g := lg_mem (lm_3 h) g
theorem ln_3 {w : Cond} {i : Nat} (h : tables_1_3[i]? = some w) (g : isN w = true) : w ∈ lw_n := ln_mem (lm_3 h) g
theorem lg_4 {w : Cond} {i : Nat} (h : tables_1_4[i]? = some w) (g : goodWord w = true) : w ∈ lw_g := lg_mem (lm_4 h) g
theorem ln_4 {w : Cond} {i : Nat} (h : tables_1_4[i]? = some w) (g : isN w = true) : w ∈ lw_n := ln_mem (lm_4 h) g
theorem lg_5 {w : Cond} {i : Nat} (h : tables_1_5[i]? = some w) (g : goodWord w = true) : w ∈ lw_g := lg_mem (lm_5 h) g
theorem ln_5 {w : Cond} {i : Nat} (h : tables_1_5[i]? = some w) (g : isN w = true) : w ∈ lw_n := ln_mem (lm_5 h) g
theorem lg_6 {w : Cond} {i : Nat} (h : tables_1_6[i]? = some w) (g : goodWord w = true) : w ∈ lw_g := lg_mem (lm_6 h) g
theorem ln_6 {w : Cond} {i : Nat} (h : tables_1_6[i]? = some w) (g : isN w = true) : w ∈ lw_n := ln_mem (lm_6 h) g
theorem lg_7 {w : Cond} {i : Nat} (h : tables_1_7[i]? = some w) (g : goodWord w = true) : w ∈ lw_g := lg_mem (lm_7 h) g
theorem ln_7 {w : Cond} {i : Nat} (h : tables_1_7[i]? = some w) (g : isN w = true) : w ∈ lw_n := ln_mem (lm_7 h) g
theorem lg_8 {w : Cond} {i : Nat} (h : tables_1_8[i]? = some w) (g : goodWord w = true) : w ∈ lw_g := lg_mem (lm_8 h) g
theorem ln_8 {w : Cond} {i : Nat} (h : tables_1_8[i]? = some w) (g : isN w = true) : w ∈ lw_n := ln_mem (lm_8 h) g
def cfJ7 : CF := (RJ7, [], [], [], [])
theorem cfJ7_ok : CFok cfJ7 := ⟨fun _ h => absurd h List.not_mem_nil, fun _ h => absurd h List.not_mem_nil, fun _ h => absurd h List.not_mem_nil, fun _ h => absurd h List.not_mem_nil⟩
def cfX6 : CF := (RX6, [(9, 7, 0, 2), (17, 7, 1, 2)], [], [], [])
theorem cfX6_ok : CFok cfX6 := ⟨List.forall_mem_cons.mpr ⟨⟨(RX6, TX6, 2), "TonguerootFamily$Sounds", rfl, by decide, rfl, by decide, lg_1 (i := 53) (by decide +kernel) rfl, Or.inl rfl⟩, List.forall_mem_cons.mpr ⟨⟨(RX6, TX6, 2), "TonguerootFamily$Sounds", rfl, by decide, rfl, by decide, lg_1 (i := 54) (by decide +kernel) rfl, Or.inl rfl⟩, fun _ h => absurd h List.not_mem_nil⟩⟩, fun _ h => absurd h List.not_mem_nil, fun _ h => absurd h List.not_mem_nil, fun _ h => absurd h List.not_mem_nil⟩
def cfJxa1e45 : CF := (RJxa1e45, [], [], [], [])
theorem cfJxa1e45_ok : CFok cfJxa1e45 := ⟨fun _ h => absurd h List.not_mem_nil, fun _ h => absurd h List.not_mem_nil, fun _ h => absurd h List.not_mem_nil, fun _ h => absurd h List.not_mem_nil⟩
def cfJxc12de : CF := (RJxc12de, [(7, 0, 0, 0)], [], [], [])
theorem cfJxc12de_ok : CFok cfJxc12de := ⟨List.forall_mem_cons.mpr ⟨⟨(RJx4a65c, TJx4a65c, 3), "java/util/AbstractList", rfl, by decide, rfl, by decide, lg_1 (i := 81) (by decide +kernel) rfl, Or.inl rfl⟩, fun _ h => absurd h List.not_mem_nil⟩, fun _ h => absurd h List.not_mem_nil, fun _ h => absurd h List.not_mem_nil, fun _ h => absurd h List.not_mem_nil⟩
def cfJx4a65c : CF := (RJx4a65c, [(9, 0, 1, 2), (48, 0, 2, 0), (63, 0, 0, 0)], [], [], [])
theorem cfJx4a65c_ok : CFok cfJx4a65c := ⟨List.forall_mem_cons.mpr ⟨⟨(RJx4a65c, TJx4a65c, 3), "java/util/ArrayList", rfl, by decide, rfl, by decide, lg_1 (i := 79) (by decide +kernel) rfl, Or.inl rfl⟩, List.forall_mem_cons.mpr ⟨⟨(RJx4a65c, TJx4a65c, 3), "java/util/ArrayList", rfl, by decide, rfl, by decide, lg_1 (i := 80) (by decide +kernel) rfl, Or.inl rfl⟩, List.forall_mem_cons.mpr ⟨⟨(RJx4a65c, TJx4a65c, 3), "java/util/ArrayList", rfl, by decide, rfl, by decide, lg_1 (i := 82) (by decide +kernel) rfl, Or.inr (lg_1 (i := 83) (by decide +kernel) rfl)⟩, fun _ h => absurd h List.not_mem_nil⟩⟩⟩, fun _ h => absurd h List.not_mem_nil, fun _ h => absurd h List.not_mem_nil, fun _ h => absurd h List.not_mem_nil⟩
def cfX2 : CF := (RX2, [(10, 3, 1, 2), (16, 3, 0, 0)], [], [(7, 0), (11, 3)], [(31, 4)])
theorem cfX2_ok : CFok cfX2 := ⟨List.forall_mem_cons.mpr ⟨⟨(RX2, TX2, 2), "TonguerootFamily$Language", rfl, by decide, rfl, by decide, lg_1 (i := 103) (by decide +kernel) rfl, Or.inl rfl⟩, List.forall_mem_cons.mpr ⟨⟨(RX2, TX2, 2), "TonguerootFamily$Language", rfl, by decide, rfl, by decide, lg_1 (i := 100) (by decide +kernel) rfl, Or.inl rfl⟩, fun _ h => absurd h List.not_mem_nil⟩⟩, fun _ h => absurd h List.not_mem_nil, List.forall_mem_cons.mpr ⟨⟨(RJx4a65c, TJx4a65c, 3), rfl, lg_1 (i := 98) (by decide +kernel) rfl, lg_1 (i := 66) (by decide +kernel) rfl, lg_1 (i := 6) (by decide +kernel) rfl, by decide +kernel⟩, List.forall_mem_cons.mpr ⟨⟨(RX2, TX2, 2), rfl, lg_5 (i := 13) (by decide +kernel) rfl, lg_1 (i := 93) (by decide +kernel) rfl, lg_1 (i := 7) (by decide +kernel) rfl, by decide +kernel⟩, fun _ h => absurd h List.not_mem_nil⟩⟩, List.forall_mem_cons.mpr ⟨⟨(RX3, TX3, 4), rfl, lg_5 (i := 17) (by decide +kernel) rfl⟩, fun _ h => absurd h List.not_mem_nil⟩⟩
def cfJ8 : CF := (RJ8, [], [(200, vI 2147483639)], [], [])
theorem cfJ8_ok : CFok cfJ8 := ⟨fun _ h => absurd h List.not_mem_nil, List.forall_mem_cons.mpr ⟨(lg_1 (i := 133) (by decide +kernel) rfl : Cond.constant RJ8 200 2147483639 ∈ lw_g), fun _ h => absurd h List.not_mem_nil⟩, fun _ h => absurd h List.not_mem_nil, fun _ h => absurd h List.not_mem_nil⟩
def cfX9 : CF := (RX9, [(10, 9, 0, 2), (16, 9, 1, 2), (20, 9, 2, 0), (36, 9, 3, 2), (45, 9, 4, 2), (49, 9, 5, 2), (52, 9, 6, 2), (60, 9, 7, 2), (66, 9, 8, 2), (73, 9, 9, 2), (135, 2, 0, 2), (163, 2, 1, 2), (172, 3, 0, 0), (265, 6, 0, 0), (312, 3, 1, 2)], [(142, vI 65536), (280, vL 2677), (311, vI 131072), (351, vD 13830554455654793216), (371, vL 31)], [(7, 7), (28, 2), (30, 0), (40, 5), (55, 1), (64, 8), (82, 3), (150, 4), (166, 6)], [(82, 3), (166, 6)])
theorem cfX9_ok : CFok cfX9 := ⟨List.forall_mem_cons.mpr ⟨⟨(RX9, TX9, 10), "TonguerootFamily", rfl, by decide, rfl, by decide, lg_2 (i := 25) (by decide +kernel) rfl, Or.inl rfl⟩, List.forall_mem_cons.mpr ⟨⟨(RX9, TX9, 10), "TonguerootFamily", rfl, by decide, rfl, by decide, lg_2 (i := 26) (by decide +kernel) rfl, Or.inl rfl⟩, List.forall_mem_cons.mpr ⟨⟨(RX9, TX9, 10), "TonguerootFamily", rfl, by decide, rfl, by decide, lg_2 (i := 27) (by decide +kernel) rfl, Or.inl rfl⟩, List.forall_mem_cons.mpr ⟨⟨(RX9, TX9, 10), "TonguerootFamily", rfl, by decide, rfl, by decide, lg_2 (i := 28) (by decide +kernel) rfl, Or.inl rfl⟩, List.forall_mem_cons.mpr ⟨⟨(RX9, TX9, 10), "TonguerootFamily", rfl, by decide, rfl, by decide, lg_2 (i := 29) (by decide +kernel) rfl, Or.inl rfl⟩, List.forall_mem_cons.mpr ⟨⟨(RX9, TX9, 10), "TonguerootFamily", rfl, by decide, rfl, by decide, lg_2 (i := 30) (by decide +kernel) rfl, Or.inl rfl⟩, List.forall_mem_cons.mpr ⟨⟨(RX9, TX9, 10), "TonguerootFamily", rfl, by decide, rfl, by decide, lg_2 (i := 31) (by decide +kernel) rfl, Or.inl rfl⟩, List.forall_mem_cons.mpr ⟨⟨(RX9, TX9, 10), "TonguerootFamily", rfl, by decide, rfl, by decide, lg_2 (i := 32) (by decide +kernel) rfl, Or.inl rfl⟩, List.forall_mem_cons.mpr ⟨⟨(RX9, TX9, 10), "TonguerootFamily", rfl, by decide, rfl, by decide, lg_2 (i := 33) (by decide +kernel) rfl, Or.inl rfl⟩, List.forall_mem_cons.mpr ⟨⟨(RX9, TX9, 10), "TonguerootFamily", rfl, by decide, rfl, by decide, lg_2 (i := 34) (by decide +kernel) rfl, Or.inl rfl⟩, List.forall_mem_cons.mpr ⟨⟨(RX1, TX1, 2), "TonguerootFamily$History", rfl, by decide, rfl, by decide, lg_1 (i := 182) (by decide +kernel) rfl, Or.inl rfl⟩, List.forall_mem_cons.mpr ⟨⟨(RX1, TX1, 2), "TonguerootFamily$History", rfl, by decide, rfl, by decide, lg_1 (i := 185) (by decide +kernel) rfl, Or.inl rfl⟩, List.forall_mem_cons.mpr ⟨⟨(RX2, TX2, 2), "TonguerootFamily$Language", rfl, by decide, rfl, by decide, lg_1 (i := 102) (by decide +kernel) rfl, Or.inl rfl⟩, List.forall_mem_cons.mpr ⟨⟨(RX5, TX5, 4), "TonguerootFamily$Loan", rfl, by decide, rfl, by decide, lg_4 (i := 65) (by decide +kernel) rfl, Or.inl rfl⟩, List.forall_mem_cons.mpr ⟨⟨(RX2, TX2, 2), "TonguerootFamily$Language", rfl, by decide, rfl, by decide, lg_1 (i := 105) (by decide +kernel) rfl, Or.inl rfl⟩, fun _ h => absurd h List.not_mem_nil⟩⟩⟩⟩⟩⟩⟩⟩⟩⟩⟩⟩⟩⟩⟩, List.forall_mem_cons.mpr ⟨(lg_4 (i := 8) (by decide +kernel) rfl : Cond.constant RX9 142 65536 ∈ lw_g), List.forall_mem_cons.mpr ⟨(lg_2 (i := 152) (by decide +kernel) rfl : Cond.constantLong RX9 280 2677 ∈ lw_g), List.forall_mem_cons.mpr ⟨(lg_4 (i := 12) (by decide +kernel) rfl : Cond.constant RX9 311 131072 ∈ lw_g), List.forall_mem_cons.mpr ⟨(lg_2 (i := 185) (by decide +kernel) rfl : Cond.constantDouble RX9 351 13830554455654793216 ∈ lw_g), List.forall_mem_cons.mpr ⟨(lg_2 (i := 156) (by decide +kernel) rfl : Cond.constantLong RX9 371 31 ∈ lw_g), fun _ h => absurd h List.not_mem_nil⟩⟩⟩⟩⟩, List.forall_mem_cons.mpr ⟨⟨(RX6, TX6, 2), rfl, lg_1 (i := 42) (by decide +kernel) rfl, lg_1 (i := 43) (by decide +kernel) rfl, lg_1 (i := 2) (by decide +kernel) rfl, by decide +kernel⟩, List.forall_mem_cons.mpr ⟨⟨(RX1, TX1, 2), rfl, lg_1 (i := 174) (by decide +kernel) rfl, lg_1 (i := 175) (by decide +kernel) rfl, lg_1 (i := 11) (by decide +kernel) rfl, by decide +kernel⟩, List.forall_mem_cons.mpr ⟨⟨(RJx4a65c, TJx4a65c, 3), rfl, lg_1 (i := 65) (by decide +kernel) rfl, lg_1 (i := 66) (by decide +kernel) rfl, lg_1 (i := 6) (by decide +kernel) rfl, by decide +kernel⟩, List.forall_mem_cons.mpr ⟨⟨(RX4, TX4, 7), rfl, lg_1 (i := 191) (by decide +kernel) rfl, lg_1 (i := 192) (by decide +kernel) rfl, lg_1 (i := 12) (by decide +kernel) rfl, by decide +kernel⟩, List.forall_mem_cons.mpr ⟨⟨(RX0, TX0, 8), rfl, lg_1 (i := 220) (by decide +kernel) rfl, lg_1 (i := 221) (by decide +kernel) rfl, lg_1 (i := 13) (by decide +kernel) rfl, by decide +kernel⟩, List.forall_mem_cons.mpr ⟨⟨(RX7, TX7, 1), rfl, lg_2 (i := 12) (by decide +kernel) rfl, lg_2 (i := 14) (by decide +kernel) rfl, lg_1 (i := 14) (by decide +kernel) rfl, by decide +kernel⟩, List.forall_mem_cons.mpr ⟨⟨(RX2, TX2, 2), rfl, lg_1 (i := 92) (by decide +kernel) rfl, lg_1 (i := 93) (by decide +kernel) rfl, lg_1 (i := 7) (by decide +kernel) rfl, by decide +kernel⟩, List.forall_mem_cons.mpr ⟨⟨(RX3, TX3, 4), rfl, lg_4 (i := 13) (by decide +kernel) rfl, lg_2 (i := 134) (by decide +kernel) rfl, lg_1 (i := 27) (by decide +kernel) rfl, by decide +kernel⟩, List.forall_mem_cons.mpr ⟨⟨(RX5, TX5, 4), rfl, lg_4 (i := 58) (by decide +kernel) rfl, lg_4 (i := 59) (by decide +kernel) rfl, lg_1 (i := 28) (by decide +kernel) rfl, by decide +kernel⟩, fun _ h => absurd h List.not_mem_nil⟩⟩⟩⟩⟩⟩⟩⟩⟩, List.forall_mem_cons.mpr ⟨⟨(RX2, TX2, 2), rfl, lg_1 (i := 92) (by decide +kernel) rfl⟩, List.forall_mem_cons.mpr ⟨⟨(RX5, TX5, 4), rfl, lg_4 (i := 58) (by decide +kernel) rfl⟩, fun _ h => absurd h List.not_mem_nil⟩⟩⟩
def cfX1 : CF := (RX1, [(7, 2, 0, 2), (13, 2, 1, 2)], [], [(8, 2), (16, 0)], [(27, 3), (36, 6)])
theorem cfX1_ok : CFok cfX1 := ⟨List.forall_mem_cons.mpr ⟨⟨(RX1, TX1, 2), "TonguerootFamily$History", rfl, by decide, rfl, by decide, lg_1 (i := 180) (by decide +kernel) rfl, Or.inl rfl⟩, List.forall_mem_cons.mpr ⟨⟨(RX1, TX1, 2), "TonguerootFamily$History", rfl, by decide, rfl, by decide, lg_1 (i := 183) (by decide +kernel) rfl, Or.inl rfl⟩, fun _ h => absurd h List.not_mem_nil⟩⟩, fun _ h => absurd h List.not_mem_nil, List.forall_mem_cons.mpr ⟨⟨(RX1, TX1, 2), rfl, lg_6 (i := 38) (by decide +kernel) rfl, lg_1 (i := 175) (by decide +kernel) rfl, lg_1 (i := 11) (by decide +kernel) rfl, by decide +kernel⟩, List.forall_mem_cons.mpr ⟨⟨(RJx4a65c, TJx4a65c, 3), rfl, lg_6 (i := 32) (by decide +kernel) rfl, lg_1 (i := 66) (by decide +kernel) rfl, lg_1 (i := 6) (by decide +kernel) rfl, by decide +kernel⟩, fun _ h => absurd h List.not_mem_nil⟩⟩, List.forall_mem_cons.mpr ⟨⟨(RX2, TX2, 2), rfl, lg_6 (i := 36) (by decide +kernel) rfl⟩, List.forall_mem_cons.mpr ⟨⟨(RX5, TX5, 4), rfl, lg_6 (i := 67) (by decide +kernel) rfl⟩, fun _ h => absurd h List.not_mem_nil⟩⟩⟩
def cfX4 : CF := (RX4, [(9, 5, 3, 2), (15, 5, 4, 2), (19, 5, 5, 2), (22, 5, 6, 2), (26, 5, 0, 2), (30, 5, 1, 2), (34, 5, 2, 2), (41, 2, 0, 2), (70, 3, 1, 2), (83, 3, 0, 0), (87, 2, 1, 2), (96, 6, 1, 0)], [], [], [(68, 3), (77, 4), (90, 6)])
theorem cfX4_ok : CFok cfX4 := ⟨List.forall_mem_cons.mpr ⟨⟨(RX4, TX4, 7), "TonguerootFamily$Lexicon", rfl, by decide, rfl, by decide, lg_1 (i := 200) (by decide +kernel) rfl, Or.inl rfl⟩, List.forall_mem_cons.mpr ⟨⟨(RX4, TX4, 7), "TonguerootFamily$Lexicon", rfl, by decide, rfl, by decide, lg_1 (i := 201) (by decide +kernel) rfl, Or.inl rfl⟩, List.forall_mem_cons.mpr ⟨⟨(RX4, TX4, 7), "TonguerootFamily$Lexicon", rfl, by decide, rfl, by decide, lg_1 (i := 202) (by decide +kernel) rfl, Or.inl rfl⟩, List.forall_mem_cons.mpr ⟨⟨(RX4, TX4, 7), "TonguerootFamily$Lexicon", rfl, by decide, rfl, by decide, lg_1 (i := 203) (by decide +kernel) rfl, Or.inl rfl⟩, List.forall_mem_cons.mpr ⟨⟨(RX4, TX4, 7), "TonguerootFamily$Lexicon", rfl, by decide, rfl, by decide, lg_1 (i := 197) (by decide +kernel) rfl, Or.inl rfl⟩, List.forall_mem_cons.mpr ⟨⟨(RX4, TX4, 7), "TonguerootFamily$Lexicon", rfl, by decide, rfl, by decide, lg_1 (i := 198) (by decide +kernel) rfl, Or.inl rfl⟩, List.forall_mem_cons.mpr ⟨⟨(RX4, TX4, 7), "TonguerootFamily$Lexicon", rfl, by decide, rfl, by decide, lg_1 (i := 199) (by decide +kernel) rfl, Or.inl rfl⟩, List.forall_mem_cons.mpr ⟨⟨(RX1, TX1, 2), "TonguerootFamily$History", rfl, by decide, rfl, by decide, lg_1 (i := 181) (by decide +kernel) rfl, Or.inl rfl⟩, List.forall_mem_cons.mpr ⟨⟨(RX2, TX2, 2), "TonguerootFamily$Language", rfl, by decide, rfl, by decide, lg_1 (i := 104) (by decide +kernel) rfl, Or.inl rfl⟩, List.forall_mem_cons.mpr ⟨⟨(RX2, TX2, 2), "TonguerootFamily$Language", rfl, by decide, rfl, by decide, lg_1 (i := 101) (by decide +kernel) rfl, Or.inl rfl⟩, List.forall_mem_cons.mpr ⟨⟨(RX1, TX1, 2), "TonguerootFamily$History", rfl, by decide, rfl, by decide, lg_1 (i := 184) (by decide +kernel) rfl, Or.inl rfl⟩, List.forall_mem_cons.mpr ⟨⟨(RX5, TX5, 4), "TonguerootFamily$Loan", rfl, by decide, rfl, by decide, lg_4 (i := 67) (by decide +kernel) rfl, Or.inl rfl⟩, fun _ h => absurd h List.not_mem_nil⟩⟩⟩⟩⟩⟩⟩⟩⟩⟩⟩⟩, fun _ h => absurd h List.not_mem_nil, fun _ h => absurd h List.not_mem_nil, List.forall_mem_cons.mpr ⟨⟨(RX2, TX2, 2), rfl, lg_2 (i := 106) (by decide +kernel) rfl⟩, List.forall_mem_cons.mpr ⟨⟨(RX3, TX3, 4), rfl, lg_2 (i := 120) (by decide +kernel) rfl⟩, List.forall_mem_cons.mpr ⟨⟨(RX5, TX5, 4), rfl, lg_2 (i := 111) (by decide +kernel) rfl⟩, fun _ h => absurd h List.not_mem_nil⟩⟩⟩⟩
def cfX0 : CF := (RX0, [(9, 1, 1, 2), (15, 1, 2, 2), (20, 1, 5, 2), (23, 1, 6, 2), (26, 1, 7, 2), (29, 1, 0, 2), (37, 1, 3, 0), (41, 1, 4, 0), (77, 7, 1, 2)], [], [], [])
theorem cfX0_ok : CFok cfX0 := ⟨List.forall_mem_cons.mpr ⟨⟨(RX0, TX0, 8), "TonguerootFamily$Alignment", rfl, by decide, rfl, by decide, lg_1 (i := 228) (by decide +kernel) rfl, Or.inl rfl⟩, List.forall_mem_cons.mpr ⟨⟨(RX0, TX0, 8), "TonguerootFamily$Alignment", rfl, by decide, rfl, by decide, lg_1 (i := 229) (by decide +kernel) rfl, Or.inl rfl⟩, List.forall_mem_cons.mpr ⟨⟨(RX0, TX0, 8), "TonguerootFamily$Alignment", rfl, by decide, rfl, by decide, lg_1 (i := 232) (by decide +kernel) rfl, Or.inl rfl⟩, List.forall_mem_cons.mpr ⟨⟨(RX0, TX0, 8), "TonguerootFamily$Alignment", rfl, by decide, rfl, by decide, lg_1 (i := 233) (by decide +kernel) rfl, Or.inl rfl⟩, List.forall_mem_cons.mpr ⟨⟨(RX0, TX0, 8), "TonguerootFamily$Alignment", rfl, by decide, rfl, by decide, lg_1 (i := 234) (by decide +kernel) rfl, Or.inl rfl⟩, List.forall_mem_cons.mpr ⟨⟨(RX0, TX0, 8), "TonguerootFamily$Alignment", rfl, by decide, rfl, by decide, lg_1 (i := 227) (by decide +kernel) rfl, Or.inl rfl⟩, List.forall_mem_cons.mpr ⟨⟨(RX0, TX0, 8), "TonguerootFamily$Alignment", rfl, by decide, rfl, by decide, lg_1 (i := 230) (by decide +kernel) rfl, Or.inl rfl⟩, List.forall_mem_cons.mpr ⟨⟨(RX0, TX0, 8), "TonguerootFamily$Alignment", rfl, by decide, rfl, by decide, lg_1 (i := 231) (by decide +kernel) rfl, Or.inl rfl⟩, List.forall_mem_cons.mpr ⟨⟨(RX6, TX6, 2), "TonguerootFamily$Sounds", rfl, by decide, rfl, by decide, lg_1 (i := 55) (by decide +kernel) rfl, Or.inl rfl⟩, fun _ h => absurd h List.not_mem_nil⟩⟩⟩⟩⟩⟩⟩⟩⟩, fun _ h => absurd h List.not_mem_nil, fun _ h => absurd h List.not_mem_nil, fun _ h => absurd h List.not_mem_nil⟩
def cfX7 : CF := (RX7, [(9, 8, 0, 2)], [], [], [])
theorem cfX7_ok : CFok cfX7 := ⟨List.forall_mem_cons.mpr ⟨⟨(RX7, TX7, 1), "TonguerootFamily$Votes", rfl, by decide, rfl, by decide, lg_2 (i := 19) (by decide +kernel) rfl, Or.inl rfl⟩, fun _ h => absurd h List.not_mem_nil⟩, fun _ h => absurd h List.not_mem_nil, fun _ h => absurd h List.not_mem_nil, fun _ h => absurd h List.not_mem_nil⟩
def cfX10 : CF := (RX10, [(9, 10, 1, 2), (13, 10, 2, 2), (17, 10, 3, 0), (21, 10, 4, 0), (24, 10, 5, 2), (27, 10, 6, 2), (30, 10, 7, 2), (33, 10, 8, 2), (36, 10, 9, 2), (39, 10, 10, 2), (42, 10, 12, 2), (45, 10, 13, 2), (48, 10, 14, 2), (51, 10, 15, 2), (54, 10, 16, 2), (58, 10, 17, 2), (61, 10, 18, 2), (64, 10, 19, 2), (67, 10, 20, 2), (70, 10, 22, 2), (73, 10, 23, 2), (76, 10, 24, 2), (79, 10, 25, 2), (82, 10, 26, 2), (85, 10, 0, 0), (122, 10, 11, 0), (191, 10, 21, 0)], [(92, vL 16), (150, vI 65535), (151, vI 131071), (179, vI 2147483647), (263, vL 82987), (265, vL 31)], [], [])
theorem cfX10_ok : CFok cfX10 := ⟨List.forall_mem_cons.mpr ⟨⟨(RX10, TX10, 27), "TonguerootFamilyModel", rfl, by decide, rfl, by decide, lg_6 (i := 82) (by decide +kernel) rfl, Or.inl rfl⟩, List.forall_mem_cons.mpr ⟨⟨(RX10, TX10, 27), "TonguerootFamilyModel", rfl, by decide, rfl, by decide, lg_6 (i := 83) (by decide +kernel) rfl, Or.inl rfl⟩, List.forall_mem_cons.mpr ⟨⟨(RX10, TX10, 27), "TonguerootFamilyModel", rfl, by decide, rfl, by decide, lg_6 (i := 84) (by decide +kernel) rfl, Or.inl rfl⟩, List.forall_mem_cons.mpr ⟨⟨(RX10, TX10, 27), "TonguerootFamilyModel", rfl, by decide, rfl, by decide, lg_6 (i := 85) (by decide +kernel) rfl, Or.inl rfl⟩, List.forall_mem_cons.mpr ⟨⟨(RX10, TX10, 27), "TonguerootFamilyModel", rfl, by decide, rfl, by decide, lg_6 (i := 86) (by decide +kernel) rfl, Or.inl rfl⟩, List.forall_mem_cons.mpr ⟨⟨(RX10, TX10, 27), "TonguerootFamilyModel", rfl, by decide, rfl, by decide, lg_6 (i := 87) (by decide +kernel) rfl, Or.inl rfl⟩, List.forall_mem_cons.mpr ⟨⟨(RX10, TX10, 27), "TonguerootFamilyModel", rfl, by decide, rfl, by decide, lg_6 (i := 88) (by decide +kernel) rfl, Or.inl rfl⟩, List.forall_mem_cons.mpr ⟨⟨(RX10, TX10, 27), "TonguerootFamilyModel", rfl, by decide, rfl, by decide, lg_6 (i := 89) (by decide +kernel) rfl, Or.inl rfl⟩, List.forall_mem_cons.mpr ⟨⟨(RX10, TX10, 27), "TonguerootFamilyModel", rfl, by decide, rfl, by decide, lg_6 (i := 90) (by decide +kernel) rfl, Or.inl rfl⟩, List.forall_mem_cons.mpr ⟨⟨(RX10, TX10, 27), "TonguerootFamilyModel", rfl, by decide, rfl, by decide, lg_6 (i := 91) (by decide +kernel) rfl, Or.inl rfl⟩, List.forall_mem_cons.mpr ⟨⟨(RX10, TX10, 27), "TonguerootFamilyModel", rfl, by decide, rfl, by decide, lg_6 (i := 93) (by decide +kernel) rfl, Or.inl rfl⟩, List.forall_mem_cons.mpr ⟨⟨(RX10, TX10, 27), "TonguerootFamilyModel", rfl, by decide, rfl, by decide, lg_6 (i := 94) (by decide +kernel) rfl, Or.inl rfl⟩, List.forall_mem_cons.mpr ⟨⟨(RX10, TX10, 27), "TonguerootFamilyModel", rfl, by decide, rfl, by decide, lg_6 (i := 95) (by decide +kernel) rfl, Or.inl rfl⟩, List.forall_mem_cons.mpr ⟨⟨(RX10, TX10, 27), "TonguerootFamilyModel", rfl, by decide, rfl, by decide, lg_6 (i := 96) (by decide +kernel) rfl, Or.inl rfl⟩, List.forall_mem_cons.mpr ⟨⟨(RX10, TX10, 27), "TonguerootFamilyModel", rfl, by decide, rfl, by decide, lg_6 (i := 97) (by decide +kernel) rfl, Or.inl rfl⟩, List.forall_mem_cons.mpr ⟨⟨(RX10, TX10, 27), "TonguerootFamilyModel", rfl, by decide, rfl, by decide, lg_6 (i := 98) (by decide +kernel) rfl, Or.inl rfl⟩, List.forall_mem_cons.mpr ⟨⟨(RX10, TX10, 27), "TonguerootFamilyModel", rfl, by decide, rfl, by decide, lg_6 (i := 99) (by decide +kernel) rfl, Or.inl rfl⟩, List.forall_mem_cons.mpr ⟨⟨(RX10, TX10, 27), "TonguerootFamilyModel", rfl, by decide, rfl, by decide, lg_6 (i := 100) (by decide +kernel) rfl, Or.inl rfl⟩, List.forall_mem_cons.mpr ⟨⟨(RX10, TX10, 27), "TonguerootFamilyModel", rfl, by decide, rfl, by decide, lg_6 (i := 101) (by decide +kernel) rfl, Or.inl rfl⟩, List.forall_mem_cons.mpr ⟨⟨(RX10, TX10, 27), "TonguerootFamilyModel", rfl, by decide, rfl, by decide, lg_6 (i := 103) (by decide +kernel) rfl, Or.inl rfl⟩, List.forall_mem_cons.mpr ⟨⟨(RX10, TX10, 27), "TonguerootFamilyModel", rfl, by decide, rfl, by decide, lg_6 (i := 104) (by decide +kernel) rfl, Or.inl rfl⟩, List.forall_mem_cons.mpr ⟨⟨(RX10, TX10, 27), "TonguerootFamilyModel", rfl, by decide, rfl, by decide, lg_6 (i := 105) (by decide +kernel) rfl, Or.inl rfl⟩, List.forall_mem_cons.mpr ⟨⟨(RX10, TX10, 27), "TonguerootFamilyModel", rfl, by decide, rfl, by decide, lg_6 (i := 106) (by decide +kernel) rfl, Or.inl rfl⟩, List.forall_mem_cons.mpr ⟨⟨(RX10, TX10, 27), "TonguerootFamilyModel", rfl, by decide, rfl, by decide, lg_6 (i := 107) (by decide +kernel) rfl, Or.inl rfl⟩, List.forall_mem_cons.mpr ⟨⟨(RX10, TX10, 27), "TonguerootFamilyModel", rfl, by decide, rfl, by decide, lg_6 (i := 81) (by decide +kernel) rfl, Or.inl rfl⟩, List.forall_mem_cons.mpr ⟨⟨(RX10, TX10, 27), "TonguerootFamilyModel", rfl, by decide, rfl, by decide, lg_6 (i := 92) (by decide +kernel) rfl, Or.inl rfl⟩, List.forall_mem_cons.mpr ⟨⟨(RX10, TX10, 27), "TonguerootFamilyModel", rfl, by decide, rfl, by decide, lg_6 (i := 102) (by decide +kernel) rfl, Or.inl rfl⟩, fun _ h => absurd h List.not_mem_nil⟩⟩⟩⟩⟩⟩⟩⟩⟩⟩⟩⟩⟩⟩⟩⟩⟩⟩⟩⟩⟩⟩⟩⟩⟩⟩⟩, List.forall_mem_cons.mpr ⟨(lg_6 (i := 191) (by decide +kernel) rfl : Cond.constantLong RX10 92 16 ∈ lw_g), List.forall_mem_cons.mpr ⟨(lg_6 (i := 208) (by decide +kernel) rfl : Cond.constant RX10 150 65535 ∈ lw_g), List.forall_mem_cons.mpr ⟨(lg_6 (i := 209) (by decide +kernel) rfl : Cond.constant RX10 151 131071 ∈ lw_g), List.forall_mem_cons.mpr ⟨(lg_7 (i := 103) (by decide +kernel) rfl : Cond.constant RX10 179 2147483647 ∈ lw_g), List.forall_mem_cons.mpr ⟨(lg_7 (i := 226) (by decide +kernel) rfl : Cond.constantLong RX10 263 82987 ∈ lw_g), List.forall_mem_cons.mpr ⟨(lg_7 (i := 227) (by decide +kernel) rfl : Cond.constantLong RX10 265 31 ∈ lw_g), fun _ h => absurd h List.not_mem_nil⟩⟩⟩⟩⟩⟩, fun _ h => absurd h List.not_mem_nil, fun _ h => absurd h List.not_mem_nil⟩
def cfJ6 : CF := (RJ6, [], [(265, vI 1431655765), (266, vI 858993459), (267, vI 252645135)], [], [])
theorem cfJ6_ok : CFok cfJ6 := ⟨fun _ h => absurd h List.not_mem_nil, List.forall_mem_cons.mpr ⟨(lg_3 (i := 158) (by decide +kernel) rfl : Cond.constant RJ6 265 1431655765 ∈ lw_g), List.forall_mem_cons.mpr ⟨(lg_3 (i := 159) (by decide +kernel) rfl : Cond.constant RJ6 266 858993459 ∈ lw_g), List.forall_mem_cons.mpr ⟨(lg_3 (i := 160) (by decide +kernel) rfl : Cond.constant RJ6 267 252645135 ∈ lw_g), fun _ h => absurd h List.not_mem_nil⟩⟩⟩, fun _ h => absurd h List.not_mem_nil, fun _ h => absurd h List.not_mem_nil⟩
def cfL : CF := (RL, [], [], [(8, 9), (113, 10)], [])
theorem cfL_ok : CFok cfL := ⟨fun _ h => absurd h List.not_mem_nil, fun _ h => absurd h List.not_mem_nil, List.forall_mem_cons.mpr ⟨⟨(RX9, TX9, 10), rfl, lg_1 (i := 34) (by decide +kernel) rfl, lg_1 (i := 35) (by decide +kernel) rfl, lg_1 (i := 1) (by decide +kernel) rfl, by decide +kernel⟩, List.forall_mem_cons.mpr ⟨⟨(RX10, TX10, 27), rfl, lg_6 (i := 75) (by decide +kernel) rfl, lg_6 (i := 76) (by decide +kernel) rfl, lg_1 (i := 15) (by decide +kernel) rfl, by decide +kernel⟩, fun _ h => absurd h List.not_mem_nil⟩⟩, fun _ h => absurd h List.not_mem_nil⟩
def cfX8 : CF := (RX8, [], [(11, vL 1099511627776)], [], [])
theorem cfX8_ok : CFok cfX8 := ⟨fun _ h => absurd h List.not_mem_nil, List.forall_mem_cons.mpr ⟨(lg_2 (i := 150) (by decide +kernel) rfl : Cond.constantLong RX8 11 1099511627776 ∈ lw_g), fun _ h => absurd h List.not_mem_nil⟩, fun _ h => absurd h List.not_mem_nil, fun _ h => absurd h List.not_mem_nil⟩
def cfJ3 : CF := (RJ3, [], [], [], [])
theorem cfJ3_ok : CFok cfJ3 := ⟨fun _ h => absurd h List.not_mem_nil, fun _ h => absurd h List.not_mem_nil, fun _ h => absurd h List.not_mem_nil, fun _ h => absurd h List.not_mem_nil⟩
def cfJ15 : CF := (RJ15, [], [], [], [])
theorem cfJ15_ok : CFok cfJ15 := ⟨fun _ h => absurd h List.not_mem_nil, fun _ h => absurd h List.not_mem_nil, fun _ h => absurd h List.not_mem_nil, fun _ h => absurd h List.not_mem_nil⟩
def cfX3 : CF := (RX3, [(9, 4, 0, 0), (15, 4, 1, 0), (18, 4, 2, 0), (21, 4, 3, 0)], [], [], [])
theorem cfX3_ok : CFok cfX3 := ⟨List.forall_mem_cons.mpr ⟨⟨(RX3, TX3, 4), "TonguerootFamily$Law", rfl, by decide, rfl, by decide, lg_4 (i := 18) (by decide +kernel) rfl, Or.inl rfl⟩, List.forall_mem_cons.mpr ⟨⟨(RX3, TX3, 4), "TonguerootFamily$Law", rfl, by decide, rfl, by decide, lg_4 (i := 19) (by decide +kernel) rfl, Or.inl rfl⟩, List.forall_mem_cons.mpr ⟨⟨(RX3, TX3, 4), "TonguerootFamily$Law", rfl, by decide, rfl, by decide, lg_4 (i := 20) (by decide +kernel) rfl, Or.inl rfl⟩, List.forall_mem_cons.mpr ⟨⟨(RX3, TX3, 4), "TonguerootFamily$Law", rfl, by decide, rfl, by decide, lg_4 (i := 21) (by decide +kernel) rfl, Or.inl rfl⟩, fun _ h => absurd h List.not_mem_nil⟩⟩⟩⟩, fun _ h => absurd h List.not_mem_nil, fun _ h => absurd h List.not_mem_nil, fun _ h => absurd h List.not_mem_nil⟩
def cfX5 : CF := (RX5, [(7, 6, 0, 0), (13, 6, 1, 0), (16, 6, 2, 0), (19, 6, 3, 0)], [], [], [])
theorem cfX5_ok : CFok cfX5 := ⟨List.forall_mem_cons.mpr ⟨⟨(RX5, TX5, 4), "TonguerootFamily$Loan", rfl, by decide, rfl, by decide, lg_4 (i := 64) (by decide +kernel) rfl, Or.inl rfl⟩, List.forall_mem_cons.mpr ⟨⟨(RX5, TX5, 4), "TonguerootFamily$Loan", rfl, by decide, rfl, by decide, lg_4 (i := 66) (by decide +kernel) rfl, Or.inl rfl⟩, List.forall_mem_cons.mpr ⟨⟨(RX5, TX5, 4), "TonguerootFamily$Loan", rfl, by decide, rfl, by decide, lg_4 (i := 68) (by decide +kernel) rfl, Or.inl rfl⟩, List.forall_mem_cons.mpr ⟨⟨(RX5, TX5, 4), "TonguerootFamily$Loan", rfl, by decide, rfl, by decide, lg_4 (i := 69) (by decide +kernel) rfl, Or.inl rfl⟩, fun _ h => absurd h List.not_mem_nil⟩⟩⟩⟩, fun _ h => absurd h List.not_mem_nil, fun _ h => absurd h List.not_mem_nil, fun _ h => absurd h List.not_mem_nil⟩
def mJ7_fill_53178 : MD := (yJ7_fill_53178, cJ7_fill_53178, 4, none, [], (0, 0, 0), cfJ7)
theorem mJ7_fill_53178_ok : MOk mJ7_fill_53178 2 := ⟨lg_1 (i := 52) (by decide +kernel) rfl, lg_1 (i := 3) (by decide +kernel) rfl, ⟨by decide +kernel, by decide +kernel⟩, par_ok (by decide +kernel), by decide +kernel⟩
def mX6_init : MD := (yX6_init, cX6_init, 2, none, [], (1, 18, 288), cfX6)
theorem mX6_init_ok : MOk mX6_init 0 := ⟨lg_1 (i := 46) (by decide +kernel) rfl, lg_1 (i := 2) (by decide +kernel) rfl, ⟨by decide +kernel, by decide +kernel⟩, par_ok (by decide +kernel), by decide +kernel⟩
def mJxa1e45_init_da8c8 : MD := (yJxa1e45_init_da8c8, cJxa1e45_init_da8c8, 1, none, [], (1, 0, 0), cfJxa1e45)
theorem mJxa1e45_init_da8c8_ok : MOk mJxa1e45_init_da8c8 0 := ⟨lg_1 (i := 75) (by decide +kernel) rfl, lg_1 (i := 4) (by decide +kernel) rfl, ⟨by decide +kernel, by decide +kernel⟩, par_ok (by decide +kernel), by decide +kernel⟩
def mJxc12de_init_da8c8 : MD := (yJxc12de_init_da8c8, cJxc12de_init_da8c8, 1, none, [], (2, 0, 0), cfJxc12de)
theorem mJxc12de_init_da8c8_ok : MOk mJxc12de_init_da8c8 0 := ⟨lg_1 (i := 72) (by decide +kernel) rfl, lg_1 (i := 5) (by decide +kernel) rfl, ⟨by decide +kernel, by decide +kernel⟩, par_ok (by decide +kernel), by decide +kernel⟩
def mJx4a65c_init_da8c8 : MD := (yJx4a65c_init_da8c8, cJx4a65c_init_da8c8, 1, none, [], (3, 0, 0), cfJx4a65c)
theorem mJx4a65c_init_da8c8_ok : MOk mJx4a65c_init_da8c8 0 := ⟨lg_1 (i := 69) (by decide +kernel) rfl, lg_1 (i := 6) (by decide +kernel) rfl, ⟨by decide +kernel, by decide +kernel⟩, par_ok (by decide +kernel), by decide +kernel⟩
def mX2_init : MD := (yX2_init, cX2_init, 2, none, [], (4, 1, 3), cfX2)
theorem mX2_init_ok : MOk mX2_init 1 := ⟨lg_1 (i := 96) (by decide +kernel) rfl, lg_1 (i := 7) (by decide +kernel) rfl, ⟨by decide +kernel, by decide +kernel⟩, par_ok (by decide +kernel), by decide +kernel⟩
def mJ8_newLength_cabcc : MD := (yJ8_newLength_cabcc, cJ8_newLength_cabcc, 4, (some FieldType.int), [], (1, 0, 0), cfJ8)
theorem mJ8_newLength_cabcc_ok : MOk mJ8_newLength_cabcc 3 := ⟨lg_1 (i := 129) (by decide +kernel) rfl, lg_1 (i := 8) (by decide +kernel) rfl, ⟨by decide +kernel, by decide +kernel⟩, par_ok (by decide +kernel), by decide +kernel⟩
def mJ7_copyOf_6403c : MD := (yJ7_copyOf_6403c, cJ7_copyOf_6403c, 4, (some (FieldType.array (FieldType.object "java/lang/Object"))), [], (1, 1, 15), cfJ7)
theorem mJ7_copyOf_6403c_ok : MOk mJ7_copyOf_6403c 3 := ⟨lg_1 (i := 162) (by decide +kernel) rfl, lg_1 (i := 3) (by decide +kernel) rfl, ⟨by decide +kernel, by decide +kernel⟩, par_ok (by decide +kernel), by decide +kernel⟩
def mJ7_copyOf_1904c : MD := (yJ7_copyOf_1904c, cJ7_copyOf_1904c, 2, (some (FieldType.array (FieldType.object "java/lang/Object"))), [], (2, 1, 15), cfJ7)
theorem mJ7_copyOf_1904c_ok : MOk mJ7_copyOf_1904c 2 := ⟨lg_1 (i := 139) (by decide +kernel) rfl, lg_1 (i := 3) (by decide +kernel) rfl, ⟨by decide +kernel, by decide +kernel⟩, par_ok (by decide +kernel), by decide +kernel⟩
def mJx4a65c_grow_92f84 : MD := (yJx4a65c_grow_92f84, cJx4a65c_grow_92f84, 4, (some (FieldType.array (FieldType.object "java/lang/Object"))), [], (3, 1, 15), cfJx4a65c)
theorem mJx4a65c_grow_92f84_ok : MOk mJx4a65c_grow_92f84 1 := ⟨lg_1 (i := 126) (by decide +kernel) rfl, lg_1 (i := 6) (by decide +kernel) rfl, ⟨by decide +kernel, by decide +kernel⟩, par_ok (by decide +kernel), by decide +kernel⟩
def mJx4a65c_grow_d5877 : MD := (yJx4a65c_grow_d5877, cJx4a65c_grow_d5877, 1, (some (FieldType.array (FieldType.object "java/lang/Object"))), [], (4, 1, 15), cfJx4a65c)
theorem mJx4a65c_grow_d5877_ok : MOk mJx4a65c_grow_d5877 0 := ⟨lg_1 (i := 122) (by decide +kernel) rfl, lg_1 (i := 6) (by decide +kernel) rfl, ⟨by decide +kernel, by decide +kernel⟩, par_ok (by decide +kernel), by decide +kernel⟩
def mJx4a65c_add_72be8 : MD := (yJx4a65c_add_72be8, cJx4a65c_add_72be8, 4, none, [], (5, 1, 15), cfJx4a65c)
theorem mJx4a65c_add_72be8_ok : MOk mJx4a65c_add_72be8 3 := ⟨lg_1 (i := 118) (by decide +kernel) rfl, lg_1 (i := 6) (by decide +kernel) rfl, ⟨by decide +kernel, by decide +kernel⟩, par_ok (by decide +kernel), by decide +kernel⟩
def mJx4a65c_add_9ea2d : MD := (yJx4a65c_add_9ea2d, cJx4a65c_add_9ea2d, 2, (some FieldType.boolean), [], (6, 1, 15), cfJx4a65c)
theorem mJx4a65c_add_9ea2d_ok : MOk mJx4a65c_add_9ea2d 1 := ⟨lg_1 (i := 114) (by decide +kernel) rfl, lg_1 (i := 6) (by decide +kernel) rfl, ⟨by decide +kernel, by decide +kernel⟩, par_ok (by decide +kernel), by decide +kernel⟩
def mX9_motherAlone : MD := (yX9_motherAlone, cX9_motherAlone, 1, (some (FieldType.object "java/util/ArrayList")), [], (7, 4, 23), cfX9)
theorem mX9_motherAlone_ok : MOk mX9_motherAlone 0 := ⟨lg_1 (i := 64) (by decide +kernel) rfl, lg_1 (i := 1) (by decide +kernel) rfl, ⟨by decide +kernel, by decide +kernel⟩, par_ok (by decide +kernel), by decide +kernel⟩
def mX1_init : MD := (yX1_init, cX1_init, 3, none, [], (1, 0, 0), cfX1)
theorem mX1_init_ok : MOk mX1_init 2 := ⟨lg_1 (i := 178) (by decide +kernel) rfl, lg_1 (i := 11) (by decide +kernel) rfl, ⟨by decide +kernel, by decide +kernel⟩, par_ok (by decide +kernel), by decide +kernel⟩
def mX4_init : MD := (yX4_init, cX4_init, 4, none, [], (1, 4, 372), cfX4)
theorem mX4_init_ok : MOk mX4_init 3 := ⟨lg_1 (i := 195) (by decide +kernel) rfl, lg_1 (i := 12) (by decide +kernel) rfl, ⟨by decide +kernel, by decide +kernel⟩, par_ok (by decide +kernel), by decide +kernel⟩
def mX0_init : MD := (yX0_init, cX0_init, 2, none, [], (1, 16, 192), cfX0)
theorem mX0_init_ok : MOk mX0_init 1 := ⟨lg_1 (i := 224) (by decide +kernel) rfl, lg_1 (i := 13) (by decide +kernel) rfl, ⟨by decide +kernel, by decide +kernel⟩, par_ok (by decide +kernel), by decide +kernel⟩
def mX7_init : MD := (yX7_init, cX7_init, 1, none, [], (1, 1, 17), cfX7)
theorem mX7_init_ok : MOk mX7_init 0 := ⟨lg_2 (i := 17) (by decide +kernel) rfl, lg_1 (i := 14) (by decide +kernel) rfl, ⟨by decide +kernel, by decide +kernel⟩, par_ok (by decide +kernel), by decide +kernel⟩
def mX9_init : MD := (yX9_init, cX9_init, 3, none, [], (8, 94, 3074), cfX9)
theorem mX9_init_ok : MOk mX9_init 0 := ⟨lg_1 (i := 38) (by decide +kernel) rfl, lg_1 (i := 1) (by decide +kernel) rfl, ⟨by decide +kernel, by decide +kernel⟩, par_ok (by decide +kernel), by decide +kernel⟩
def mX10_init : MD := (yX10_init, cX10_init, 2, none, [], (1, 22, 1139), cfX10)
theorem mX10_init_ok : MOk mX10_init 0 := ⟨lg_6 (i := 79) (by decide +kernel) rfl, lg_1 (i := 15) (by decide +kernel) rfl, ⟨by decide +kernel, by decide +kernel⟩, par_ok (by decide +kernel), by decide +kernel⟩
def mX9_isSound : MD := (yX9_isSound, cX9_isSound, 1, (some FieldType.boolean), [], (0, 0, 0), cfX9)
theorem mX9_isSound_ok : MOk mX9_isSound 1 := ⟨lg_3 (i := 46) (by decide +kernel) rfl, lg_1 (i := 1) (by decide +kernel) rfl, ⟨by decide +kernel, by decide +kernel⟩, par_ok (by decide +kernel), by decide +kernel⟩
def mX9_refuseUnless : MD := (yX9_refuseUnless, cX9_refuseUnless, 1, none, [], (6, 1, 6), cfX9)
theorem mX9_refuseUnless_ok : MOk mX9_refuseUnless 1 := ⟨lg_3 (i := 78) (by decide +kernel) rfl, lg_1 (i := 1) (by decide +kernel) rfl, ⟨by decide +kernel, by decide +kernel⟩, par_ok (by decide +kernel), by decide +kernel⟩
def mX6_featuresOf : MD := (yX6_featuresOf, cX6_featuresOf, 2, (some FieldType.int), [], (0, 0, 0), cfX6)
theorem mX6_featuresOf_ok : MOk mX6_featuresOf 1 := ⟨lg_3 (i := 150) (by decide +kernel) rfl, lg_1 (i := 2) (by decide +kernel) rfl, ⟨by decide +kernel, by decide +kernel⟩, par_ok (by decide +kernel), by decide +kernel⟩
def mJ6_bitCount_0f7a4 : MD := (yJ6_bitCount_0f7a4, cJ6_bitCount_0f7a4, 1, (some FieldType.int), [], (0, 0, 0), cfJ6)
theorem mJ6_bitCount_0f7a4_ok : MOk mJ6_bitCount_0f7a4 1 := ⟨lg_3 (i := 157) (by decide +kernel) rfl, lg_1 (i := 21) (by decide +kernel) rfl, ⟨by decide +kernel, by decide +kernel⟩, par_ok (by decide +kernel), by decide +kernel⟩
def mX6_giveFeatures : MD := (yX6_giveFeatures, cX6_giveFeatures, 5, none, [], (1, 0, 0), cfX6)
theorem mX6_giveFeatures_ok : MOk mX6_giveFeatures 2 := ⟨lg_3 (i := 154) (by decide +kernel) rfl, lg_1 (i := 2) (by decide +kernel) rfl, ⟨by decide +kernel, by decide +kernel⟩, par_ok (by decide +kernel), by decide +kernel⟩
def mX4_forget : MD := (yX4_forget, cX4_forget, 2, none, [], (0, 0, 0), cfX4)
theorem mX4_forget_ok : MOk mX4_forget 1 := ⟨lg_3 (i := 172) (by decide +kernel) rfl, lg_1 (i := 12) (by decide +kernel) rfl, ⟨by decide +kernel, by decide +kernel⟩, par_ok (by decide +kernel), by decide +kernel⟩
def mX9_forgetMeaning : MD := (yX9_forgetMeaning, cX9_forgetMeaning, 2, none, [], (1, 0, 0), cfX9)
theorem mX9_forgetMeaning_ok : MOk mX9_forgetMeaning 1 := ⟨lg_3 (i := 168) (by decide +kernel) rfl, lg_1 (i := 1) (by decide +kernel) rfl, ⟨by decide +kernel, by decide +kernel⟩, par_ok (by decide +kernel), by decide +kernel⟩
def mX9_forgetAll : MD := (yX9_forgetAll, cX9_forgetAll, 2, none, [], (2, 0, 0), cfX9)
theorem mX9_forgetAll_ok : MOk mX9_forgetAll 0 := ⟨lg_3 (i := 164) (by decide +kernel) rfl, lg_1 (i := 1) (by decide +kernel) rfl, ⟨by decide +kernel, by decide +kernel⟩, par_ok (by decide +kernel), by decide +kernel⟩
def mX9_setSound : MD := (yX9_setSound, cX9_setSound, 4, (some FieldType.int), [], (7, 1, 6), cfX9)
theorem mX9_setSound_ok : MOk mX9_setSound 2 := ⟨lg_3 (i := 75) (by decide +kernel) rfl, lg_1 (i := 1) (by decide +kernel) rfl, ⟨by decide +kernel, by decide +kernel⟩, par_ok (by decide +kernel), by decide +kernel⟩
def mL_setSound : MD := (yL_setSound, cL_setSound, 5, (some FieldType.int), [(0, 10, 13, 13)], (8, 1, 6), cfL)
theorem mL_setSound_ok : MOk mL_setSound 4 := ⟨lg_3 (i := 70) (by decide +kernel) rfl, lg_1 (i := 0) (by decide +kernel) rfl, ⟨by decide +kernel, by decide +kernel⟩, par_ok (by decide +kernel), by decide +kernel⟩
def mX10_isIn : MD := (yX10_isIn, cX10_isIn, 3, (some FieldType.boolean), [], (0, 0, 0), cfX10)
theorem mX10_isIn_ok : MOk mX10_isIn 3 := ⟨lg_6 (i := 176) (by decide +kernel) rfl, lg_1 (i := 15) (by decide +kernel) rfl, ⟨by decide +kernel, by decide +kernel⟩, par_ok (by decide +kernel), by decide +kernel⟩
def mX10_isSound : MD := (yX10_isSound, cX10_isSound, 1, (some FieldType.boolean), [], (1, 0, 0), cfX10)
theorem mX10_isSound_ok : MOk mX10_isSound 1 := ⟨lg_6 (i := 173) (by decide +kernel) rfl, lg_1 (i := 15) (by decide +kernel) rfl, ⟨by decide +kernel, by decide +kernel⟩, par_ok (by decide +kernel), by decide +kernel⟩
def mX10_no : MD := (yX10_no, cX10_no, 2, (some FieldType.int), [], (0, 0, 0), cfX10)
theorem mX10_no_ok : MOk mX10_no 1 := ⟨lg_6 (i := 180) (by decide +kernel) rfl, lg_1 (i := 15) (by decide +kernel) rfl, ⟨by decide +kernel, by decide +kernel⟩, par_ok (by decide +kernel), by decide +kernel⟩
def mX10_setSound : MD := (yX10_setSound, cX10_setSound, 4, (some FieldType.int), [], (2, 0, 0), cfX10)
theorem mX10_setSound_ok : MOk mX10_setSound 2 := ⟨lg_6 (i := 170) (by decide +kernel) rfl, lg_1 (i := 15) (by decide +kernel) rfl, ⟨by decide +kernel, by decide +kernel⟩, par_ok (by decide +kernel), by decide +kernel⟩
def mX10_thrown : MD := (yX10_thrown, cX10_thrown, 1, (some FieldType.int), [], (0, 0, 0), cfX10)
theorem mX10_thrown_ok : MOk mX10_thrown 0 := ⟨lg_6 (i := 166) (by decide +kernel) rfl, lg_1 (i := 15) (by decide +kernel) rfl, ⟨by decide +kernel, by decide +kernel⟩, par_ok (by decide +kernel), by decide +kernel⟩
def mX9_isMeaning : MD := (yX9_isMeaning, cX9_isMeaning, 1, (some FieldType.boolean), [], (0, 0, 0), cfX9)
theorem mX9_isMeaning_ok : MOk mX9_isMeaning 1 := ⟨lg_3 (i := 182) (by decide +kernel) rfl, lg_1 (i := 1) (by decide +kernel) rfl, ⟨by decide +kernel, by decide +kernel⟩, par_ok (by decide +kernel), by decide +kernel⟩
def mX8_size : MD := (yX8_size, cX8_size, 2, (some FieldType.int), [], (0, 0, 0), cfX8)
theorem mX8_size_ok : MOk mX8_size 1 := ⟨lg_2 (i := 127) (by decide +kernel) rfl, lg_1 (i := 22) (by decide +kernel) rfl, ⟨by decide +kernel, by decide +kernel⟩, par_ok (by decide +kernel), by decide +kernel⟩
def mX9_word : MD := (yX9_word, cX9_word, 3, (some FieldType.int), [], (7, 1, 6), cfX9)
theorem mX9_word_ok : MOk mX9_word 1 := ⟨lg_3 (i := 179) (by decide +kernel) rfl, lg_1 (i := 1) (by decide +kernel) rfl, ⟨by decide +kernel, by decide +kernel⟩, par_ok (by decide +kernel), by decide +kernel⟩
def mL_word : MD := (yL_word, cL_word, 4, (some FieldType.int), [(0, 9, 12, 13)], (8, 1, 6), cfL)
theorem mL_word_ok : MOk mL_word 3 := ⟨lg_3 (i := 175) (by decide +kernel) rfl, lg_1 (i := 0) (by decide +kernel) rfl, ⟨by decide +kernel, by decide +kernel⟩, par_ok (by decide +kernel), by decide +kernel⟩
def mX10_isMeaning : MD := (yX10_isMeaning, cX10_isMeaning, 1, (some FieldType.boolean), [], (1, 0, 0), cfX10)
theorem mX10_isMeaning_ok : MOk mX10_isMeaning 1 := ⟨lg_6 (i := 187) (by decide +kernel) rfl, lg_1 (i := 15) (by decide +kernel) rfl, ⟨by decide +kernel, by decide +kernel⟩, par_ok (by decide +kernel), by decide +kernel⟩
def mX10_length : MD := (yX10_length, cX10_length, 5, (some FieldType.int), [], (0, 0, 0), cfX10)
theorem mX10_length_ok : MOk mX10_length 1 := ⟨lg_6 (i := 190) (by decide +kernel) rfl, lg_1 (i := 15) (by decide +kernel) rfl, ⟨by decide +kernel, by decide +kernel⟩, par_ok (by decide +kernel), by decide +kernel⟩
def mX10_word : MD := (yX10_word, cX10_word, 3, (some FieldType.int), [], (2, 0, 0), cfX10)
theorem mX10_word_ok : MOk mX10_word 1 := ⟨lg_6 (i := 184) (by decide +kernel) rfl, lg_1 (i := 15) (by decide +kernel) rfl, ⟨by decide +kernel, by decide +kernel⟩, par_ok (by decide +kernel), by decide +kernel⟩
def mX9_requireState : MD := (yX9_requireState, cX9_requireState, 1, none, [], (6, 1, 6), cfX9)
theorem mX9_requireState_ok : MOk mX9_requireState 1 := ⟨lg_3 (i := 193) (by decide +kernel) rfl, lg_1 (i := 1) (by decide +kernel) rfl, ⟨by decide +kernel, by decide +kernel⟩, par_ok (by decide +kernel), by decide +kernel⟩
def mX8_plus : MD := (yX8_plus, cX8_plus, 3, (some FieldType.long), [], (1, 0, 0), cfX8)
theorem mX8_plus_ok : MOk mX8_plus 2 := ⟨lg_2 (i := 149) (by decide +kernel) rfl, lg_1 (i := 22) (by decide +kernel) rfl, ⟨by decide +kernel, by decide +kernel⟩, par_ok (by decide +kernel), by decide +kernel⟩
def mX9_spell : MD := (yX9_spell, cX9_spell, 2, (some FieldType.int), [], (7, 2, 12), cfX9)
theorem mX9_spell_ok : MOk mX9_spell 1 := ⟨lg_3 (i := 190) (by decide +kernel) rfl, lg_1 (i := 1) (by decide +kernel) rfl, ⟨by decide +kernel, by decide +kernel⟩, par_ok (by decide +kernel), by decide +kernel⟩
def mL_spell : MD := (yL_spell, cL_spell, 4, (some FieldType.int), [(0, 9, 12, 13), (0, 9, 15, 22)], (8, 2, 12), cfL)
theorem mL_spell_ok : MOk mL_spell 3 := ⟨lg_3 (i := 185) (by decide +kernel) rfl, lg_1 (i := 0) (by decide +kernel) rfl, ⟨by decide +kernel, by decide +kernel⟩, par_ok (by decide +kernel), by decide +kernel⟩
def mX10_spell : MD := (yX10_spell, cX10_spell, 2, (some FieldType.int), [], (2, 0, 0), cfX10)
theorem mX10_spell_ok : MOk mX10_spell 1 := ⟨lg_6 (i := 195) (by decide +kernel) rfl, lg_1 (i := 15) (by decide +kernel) rfl, ⟨by decide +kernel, by decide +kernel⟩, par_ok (by decide +kernel), by decide +kernel⟩
def mJx4a65c_size_8abf5 : MD := (yJx4a65c_size_8abf5, cJx4a65c_size_8abf5, 1, (some FieldType.int), [], (0, 0, 0), cfJx4a65c)
theorem mJx4a65c_size_8abf5_ok : MOk mJx4a65c_size_8abf5 0 := ⟨lg_2 (i := 63) (by decide +kernel) rfl, lg_1 (i := 6) (by decide +kernel) rfl, ⟨by decide +kernel, by decide +kernel⟩, par_ok (by decide +kernel), by decide +kernel⟩
def mX9_isLanguage : MD := (yX9_isLanguage, cX9_isLanguage, 2, (some FieldType.boolean), [], (1, 0, 0), cfX9)
theorem mX9_isLanguage_ok : MOk mX9_isLanguage 1 := ⟨lg_3 (i := 221) (by decide +kernel) rfl, lg_1 (i := 1) (by decide +kernel) rfl, ⟨by decide +kernel, by decide +kernel⟩, par_ok (by decide +kernel), by decide +kernel⟩
def mX9_requireThere : MD := (yX9_requireThere, cX9_requireThere, 1, none, [], (6, 1, 6), cfX9)
theorem mX9_requireThere_ok : MOk mX9_requireThere 1 := ⟨lg_3 (i := 224) (by decide +kernel) rfl, lg_1 (i := 1) (by decide +kernel) rfl, ⟨by decide +kernel, by decide +kernel⟩, par_ok (by decide +kernel), by decide +kernel⟩
def mX9_language : MD := (yX9_language, cX9_language, 2, (some FieldType.int), [], (7, 5, 32), cfX9)
theorem mX9_language_ok : MOk mX9_language 1 := ⟨lg_3 (i := 217) (by decide +kernel) rfl, lg_1 (i := 1) (by decide +kernel) rfl, ⟨by decide +kernel, by decide +kernel⟩, par_ok (by decide +kernel), by decide +kernel⟩
def mL_language : MD := (yL_language, cL_language, 4, (some FieldType.int), [(0, 9, 12, 27), (0, 9, 15, 22)], (8, 5, 32), cfL)
theorem mL_language_ok : MOk mL_language 3 := ⟨lg_3 (i := 212) (by decide +kernel) rfl, lg_1 (i := 0) (by decide +kernel) rfl, ⟨by decide +kernel, by decide +kernel⟩, par_ok (by decide +kernel), by decide +kernel⟩
def mX10_isLanguage : MD := (yX10_isLanguage, cX10_isLanguage, 2, (some FieldType.boolean), [], (1, 0, 0), cfX10)
theorem mX10_isLanguage_ok : MOk mX10_isLanguage 1 := ⟨lg_6 (i := 203) (by decide +kernel) rfl, lg_1 (i := 15) (by decide +kernel) rfl, ⟨by decide +kernel, by decide +kernel⟩, par_ok (by decide +kernel), by decide +kernel⟩
def mX10_language : MD := (yX10_language, cX10_language, 2, (some FieldType.int), [], (2, 0, 0), cfX10)
theorem mX10_language_ok : MOk mX10_language 1 := ⟨lg_6 (i := 199) (by decide +kernel) rfl, lg_1 (i := 15) (by decide +kernel) rfl, ⟨by decide +kernel, by decide +kernel⟩, par_ok (by decide +kernel), by decide +kernel⟩
def mX9_isNeighbourSet : MD := (yX9_isNeighbourSet, cX9_isNeighbourSet, 1, (some FieldType.boolean), [], (0, 0, 0), cfX9)
theorem mX9_isNeighbourSet_ok : MOk mX9_isNeighbourSet 1 := ⟨lg_4 (i := 11) (by decide +kernel) rfl, lg_1 (i := 1) (by decide +kernel) rfl, ⟨by decide +kernel, by decide +kernel⟩, par_ok (by decide +kernel), by decide +kernel⟩
def mJ3_checkIndex_8e157 : MD := (yJ3_checkIndex_8e157, cJ3_checkIndex_8e157, 3, (some FieldType.int), [], (0, 0, 0), cfJ3)
theorem mJ3_checkIndex_8e157_ok : MOk mJ3_checkIndex_8e157 3 := ⟨lg_2 (i := 101) (by decide +kernel) rfl, lg_1 (i := 26) (by decide +kernel) rfl, ⟨by decide +kernel, by decide +kernel⟩, par_ok (by decide +kernel), by decide +kernel⟩
def mJ15_checkIndex_7cf53 : MD := (yJ15_checkIndex_7cf53, cJ15_checkIndex_7cf53, 2, (some FieldType.int), [], (1, 0, 0), cfJ15)
theorem mJ15_checkIndex_7cf53_ok : MOk mJ15_checkIndex_7cf53 2 := ⟨lg_2 (i := 98) (by decide +kernel) rfl, lg_1 (i := 25) (by decide +kernel) rfl, ⟨by decide +kernel, by decide +kernel⟩, par_ok (by decide +kernel), by decide +kernel⟩
def mJx4a65c_elementData_915e3 : MD := (yJx4a65c_elementData_915e3, cJx4a65c_elementData_915e3, 2, (some (FieldType.object "java/lang/Object")), [], (0, 0, 0), cfJx4a65c)
theorem mJx4a65c_elementData_915e3_ok : MOk mJx4a65c_elementData_915e3 1 := ⟨lg_2 (i := 105) (by decide +kernel) rfl, lg_1 (i := 6) (by decide +kernel) rfl, ⟨by decide +kernel, by decide +kernel⟩, par_ok (by decide +kernel), by decide +kernel⟩
def mJx4a65c_get_915e3 : MD := (yJx4a65c_get_915e3, cJx4a65c_get_915e3, 2, (some (FieldType.object "java/lang/Object")), [], (2, 0, 0), cfJx4a65c)
theorem mJx4a65c_get_915e3_ok : MOk mJx4a65c_get_915e3 1 := ⟨lg_2 (i := 95) (by decide +kernel) rfl, lg_1 (i := 6) (by decide +kernel) rfl, ⟨by decide +kernel, by decide +kernel⟩, par_ok (by decide +kernel), by decide +kernel⟩
def mX9_lawsOf : MD := (yX9_lawsOf, cX9_lawsOf, 2, (some (FieldType.object "java/util/ArrayList")), [], (3, 0, 0), cfX9)
theorem mX9_lawsOf_ok : MOk mX9_lawsOf 1 := ⟨lg_2 (i := 160) (by decide +kernel) rfl, lg_1 (i := 1) (by decide +kernel) rfl, ⟨by decide +kernel, by decide +kernel⟩, par_ok (by decide +kernel), by decide +kernel⟩
def mX3_init : MD := (yX3_init, cX3_init, 5, none, [], (1, 0, 0), cfX3)
theorem mX3_init_ok : MOk mX3_init 4 := ⟨lg_4 (i := 16) (by decide +kernel) rfl, lg_1 (i := 27) (by decide +kernel) rfl, ⟨by decide +kernel, by decide +kernel⟩, par_ok (by decide +kernel), by decide +kernel⟩
def mX9_law : MD := (yX9_law, cX9_law, 7, (some FieldType.int), [], (7, 6, 43), cfX9)
theorem mX9_law_ok : MOk mX9_law 5 := ⟨lg_4 (i := 7) (by decide +kernel) rfl, lg_1 (i := 1) (by decide +kernel) rfl, ⟨by decide +kernel, by decide +kernel⟩, par_ok (by decide +kernel), by decide +kernel⟩
def mL_law : MD := (yL_law, cL_law, 8, (some FieldType.int), [(0, 16, 19, 27), (0, 16, 23, 13), (0, 16, 27, 22)], (8, 6, 43), cfL)
theorem mL_law_ok : MOk mL_law 7 := ⟨lg_4 (i := 3) (by decide +kernel) rfl, lg_1 (i := 0) (by decide +kernel) rfl, ⟨by decide +kernel, by decide +kernel⟩, par_ok (by decide +kernel), by decide +kernel⟩
def mX10_law : MD := (yX10_law, cX10_law, 7, (some FieldType.int), [], (2, 0, 0), cfX10)
theorem mX10_law_ok : MOk mX10_law 5 := ⟨lg_6 (i := 207) (by decide +kernel) rfl, lg_1 (i := 15) (by decide +kernel) rfl, ⟨by decide +kernel, by decide +kernel⟩, par_ok (by decide +kernel), by decide +kernel⟩
def mJx4a65c_isEmpty_aae02 : MD := (yJx4a65c_isEmpty_aae02, cJx4a65c_isEmpty_aae02, 1, (some FieldType.boolean), [], (0, 0, 0), cfJx4a65c)
theorem mJx4a65c_isEmpty_aae02_ok : MOk mJx4a65c_isEmpty_aae02 0 := ⟨lg_4 (i := 41) (by decide +kernel) rfl, lg_1 (i := 6) (by decide +kernel) rfl, ⟨by decide +kernel, by decide +kernel⟩, par_ok (by decide +kernel), by decide +kernel⟩
def mJx4a65c_fastRemove_b59b0 : MD := (yJx4a65c_fastRemove_b59b0, cJx4a65c_fastRemove_b59b0, 4, none, [], (1, 0, 0), cfJx4a65c)
theorem mJx4a65c_fastRemove_b59b0_ok : MOk mJx4a65c_fastRemove_b59b0 2 := ⟨lg_4 (i := 49) (by decide +kernel) rfl, lg_1 (i := 6) (by decide +kernel) rfl, ⟨by decide +kernel, by decide +kernel⟩, par_ok (by decide +kernel), by decide +kernel⟩
def mJx4a65c_remove_915e3 : MD := (yJx4a65c_remove_915e3, cJx4a65c_remove_915e3, 4, (some (FieldType.object "java/lang/Object")), [], (2, 0, 0), cfJx4a65c)
theorem mJx4a65c_remove_915e3_ok : MOk mJx4a65c_remove_915e3 1 := ⟨lg_4 (i := 45) (by decide +kernel) rfl, lg_1 (i := 6) (by decide +kernel) rfl, ⟨by decide +kernel, by decide +kernel⟩, par_ok (by decide +kernel), by decide +kernel⟩
def mX9_unlaw : MD := (yX9_unlaw, cX9_unlaw, 3, (some FieldType.int), [], (7, 2, 12), cfX9)
theorem mX9_unlaw_ok : MOk mX9_unlaw 1 := ⟨lg_4 (i := 37) (by decide +kernel) rfl, lg_1 (i := 1) (by decide +kernel) rfl, ⟨by decide +kernel, by decide +kernel⟩, par_ok (by decide +kernel), by decide +kernel⟩
def mL_unlaw : MD := (yL_unlaw, cL_unlaw, 4, (some FieldType.int), [(0, 9, 12, 27), (0, 9, 15, 22)], (8, 2, 12), cfL)
theorem mL_unlaw_ok : MOk mL_unlaw 3 := ⟨lg_4 (i := 33) (by decide +kernel) rfl, lg_1 (i := 0) (by decide +kernel) rfl, ⟨by decide +kernel, by decide +kernel⟩, par_ok (by decide +kernel), by decide +kernel⟩
def mX10_unlaw : MD := (yX10_unlaw, cX10_unlaw, 2, (some FieldType.int), [], (2, 0, 0), cfX10)
theorem mX10_unlaw_ok : MOk mX10_unlaw 1 := ⟨lg_6 (i := 213) (by decide +kernel) rfl, lg_1 (i := 15) (by decide +kernel) rfl, ⟨by decide +kernel, by decide +kernel⟩, par_ok (by decide +kernel), by decide +kernel⟩
def mX5_init : MD := (yX5_init, cX5_init, 5, none, [], (1, 0, 0), cfX5)
theorem mX5_init_ok : MOk mX5_init 4 := ⟨lg_4 (i := 62) (by decide +kernel) rfl, lg_1 (i := 28) (by decide +kernel) rfl, ⟨by decide +kernel, by decide +kernel⟩, par_ok (by decide +kernel), by decide +kernel⟩
def mX9_loan : MD := (yX9_loan, cX9_loan, 5, (some FieldType.int), [], (7, 5, 37), cfX9)
theorem mX9_loan_ok : MOk mX9_loan 4 := ⟨lg_4 (i := 57) (by decide +kernel) rfl, lg_1 (i := 1) (by decide +kernel) rfl, ⟨by decide +kernel, by decide +kernel⟩, par_ok (by decide +kernel), by decide +kernel⟩
def mL_loan : MD := (yL_loan, cL_loan, 7, (some FieldType.int), [(0, 14, 17, 27), (0, 14, 21, 13), (0, 14, 25, 22)], (8, 5, 37), cfL)
theorem mL_loan_ok : MOk mL_loan 6 := ⟨lg_4 (i := 53) (by decide +kernel) rfl, lg_1 (i := 0) (by decide +kernel) rfl, ⟨by decide +kernel, by decide +kernel⟩, par_ok (by decide +kernel), by decide +kernel⟩
def mX10_loan : MD := (yX10_loan, cX10_loan, 5, (some FieldType.int), [], (2, 0, 0), cfX10)
theorem mX10_loan_ok : MOk mX10_loan 4 := ⟨lg_6 (i := 217) (by decide +kernel) rfl, lg_1 (i := 15) (by decide +kernel) rfl, ⟨by decide +kernel, by decide +kernel⟩, par_ok (by decide +kernel), by decide +kernel⟩
def mX9_languages : MD := (yX9_languages, cX9_languages, 1, (some FieldType.int), [], (1, 0, 0), cfX9)
theorem mX9_languages_ok : MOk mX9_languages 0 := ⟨lg_2 (i := 59) (by decide +kernel) rfl, lg_1 (i := 1) (by decide +kernel) rfl, ⟨by decide +kernel, by decide +kernel⟩, par_ok (by decide +kernel), by decide +kernel⟩
def mX10_ok : MD := (yX10_ok, cX10_ok, 2, (some FieldType.int), [], (0, 0, 0), cfX10)
theorem mX10_ok_ok : MOk mX10_ok 1 := ⟨lg_6 (i := 225) (by decide +kernel) rfl, lg_1 (i := 15) (by decide +kernel) rfl, ⟨by decide +kernel, by decide +kernel⟩, par_ok (by decide +kernel), by decide +kernel⟩
def mX10_languages : MD := (yX10_languages, cX10_languages, 1, (some FieldType.int), [], (1, 0, 0), cfX10)
theorem mX10_languages_ok : MOk mX10_languages 0 := ⟨lg_6 (i := 221) (by decide +kernel) rfl, lg_1 (i := 15) (by decide +kernel) rfl, ⟨by decide +kernel, by decide +kernel⟩, par_ok (by decide +kernel), by decide +kernel⟩
def mX9_laws : MD := (yX9_laws, cX9_laws, 2, (some FieldType.int), [], (7, 1, 6), cfX9)
theorem mX9_laws_ok : MOk mX9_laws 1 := ⟨lg_4 (i := 85) (by decide +kernel) rfl, lg_1 (i := 1) (by decide +kernel) rfl, ⟨by decide +kernel, by decide +kernel⟩, par_ok (by decide +kernel), by decide +kernel⟩
def mL_laws : MD := (yL_laws, cL_laws, 4, (some FieldType.int), [(0, 9, 12, 27)], (8, 1, 6), cfL)
theorem mL_laws_ok : MOk mL_laws 3 := ⟨lg_4 (i := 81) (by decide +kernel) rfl, lg_1 (i := 0) (by decide +kernel) rfl, ⟨by decide +kernel, by decide +kernel⟩, par_ok (by decide +kernel), by decide +kernel⟩
def mX10_laws : MD := (yX10_laws, cX10_laws, 2, (some FieldType.int), [], (2, 0, 0), cfX10)
theorem mX10_laws_ok : MOk mX10_laws 1 := ⟨lg_6 (i := 229) (by decide +kernel) rfl, lg_1 (i := 15) (by decide +kernel) rfl, ⟨by decide +kernel, by decide +kernel⟩, par_ok (by decide +kernel), by decide +kernel⟩
def mX9_loans : MD := (yX9_loans, cX9_loans, 1, (some FieldType.int), [], (1, 0, 0), cfX9)
theorem mX9_loans_ok : MOk mX9_loans 0 := ⟨lg_2 (i := 67) (by decide +kernel) rfl, lg_1 (i := 1) (by decide +kernel) rfl, ⟨by decide +kernel, by decide +kernel⟩, par_ok (by decide +kernel), by decide +kernel⟩
def mX10_loans : MD := (yX10_loans, cX10_loans, 1, (some FieldType.int), [], (1, 0, 0), cfX10)
theorem mX10_loans_ok : MOk mX10_loans 0 := ⟨lg_6 (i := 233) (by decide +kernel) rfl, lg_1 (i := 15) (by decide +kernel) rfl, ⟨by decide +kernel, by decide +kernel⟩, par_ok (by decide +kernel), by decide +kernel⟩
def mX9_common : MD := (yX9_common, cX9_common, 6, (some FieldType.int), [], (7, 1, 6), cfX9)
theorem mX9_common_ok : MOk mX9_common 2 := ⟨lg_4 (i := 92) (by decide +kernel) rfl, lg_1 (i := 1) (by decide +kernel) rfl, ⟨by decide +kernel, by decide +kernel⟩, par_ok (by decide +kernel), by decide +kernel⟩
def mL_common : MD := (yL_common, cL_common, 5, (some FieldType.int), [(0, 10, 13, 27)], (8, 1, 6), cfL)
theorem mL_common_ok : MOk mL_common 4 := ⟨lg_4 (i := 88) (by decide +kernel) rfl, lg_1 (i := 0) (by decide +kernel) rfl, ⟨by decide +kernel, by decide +kernel⟩, par_ok (by decide +kernel), by decide +kernel⟩
def mX10_common : MD := (yX10_common, cX10_common, 5, (some FieldType.int), [], (2, 0, 0), cfX10)
theorem mX10_common_ok : MOk mX10_common 2 := ⟨lg_6 (i := 237) (by decide +kernel) rfl, lg_1 (i := 15) (by decide +kernel) rfl, ⟨by decide +kernel, by decide +kernel⟩, par_ok (by decide +kernel), by decide +kernel⟩
def mX4_cell : MD := (yX4_cell, cX4_cell, 2, (some FieldType.int), [], (0, 0, 0), cfX4)
theorem mX4_cell_ok : MOk mX4_cell 2 := ⟨lg_2 (i := 91) (by decide +kernel) rfl, lg_1 (i := 12) (by decide +kernel) rfl, ⟨by decide +kernel, by decide +kernel⟩, par_ok (by decide +kernel), by decide +kernel⟩
def mX4_inherit : MD := (yX4_inherit, cX4_inherit, 5, none, [], (3, 0, 0), cfX4)
theorem mX4_inherit_ok : MOk mX4_inherit 2 := ⟨lg_2 (i := 88) (by decide +kernel) rfl, lg_1 (i := 12) (by decide +kernel) rfl, ⟨by decide +kernel, by decide +kernel⟩, par_ok (by decide +kernel), by decide +kernel⟩
def mX5_comesTo : MD := (yX5_comesTo, cX5_comesTo, 4, (some FieldType.boolean), [], (0, 0, 0), cfX5)
theorem mX5_comesTo_ok : MOk mX5_comesTo 3 := ⟨lg_2 (i := 115) (by decide +kernel) rfl, lg_1 (i := 28) (by decide +kernel) rfl, ⟨by decide +kernel, by decide +kernel⟩, par_ok (by decide +kernel), by decide +kernel⟩
def mX4_hasWord : MD := (yX4_hasWord, cX4_hasWord, 3, (some FieldType.boolean), [], (1, 0, 0), cfX4)
theorem mX4_hasWord_ok : MOk mX4_hasWord 2 := ⟨lg_2 (i := 119) (by decide +kernel) rfl, lg_1 (i := 12) (by decide +kernel) rfl, ⟨by decide +kernel, by decide +kernel⟩, par_ok (by decide +kernel), by decide +kernel⟩
def mX4_borrow : MD := (yX4_borrow, cX4_borrow, 7, none, [], (3, 0, 0), cfX4)
theorem mX4_borrow_ok : MOk mX4_borrow 3 := ⟨lg_2 (i := 110) (by decide +kernel) rfl, lg_1 (i := 12) (by decide +kernel) rfl, ⟨by decide +kernel, by decide +kernel⟩, par_ok (by decide +kernel), by decide +kernel⟩
def mX8_at : MD := (yX8_at, cX8_at, 3, (some FieldType.int), [], (0, 0, 0), cfX8)
theorem mX8_at_ok : MOk mX8_at 2 := ⟨lg_2 (i := 130) (by decide +kernel) rfl, lg_1 (i := 22) (by decide +kernel) rfl, ⟨by decide +kernel, by decide +kernel⟩, par_ok (by decide +kernel), by decide +kernel⟩
def mX3_has : MD := (yX3_has, cX3_has, 2, (some FieldType.boolean), [], (0, 0, 0), cfX3)
theorem mX3_has_ok : MOk mX3_has 2 := ⟨lg_2 (i := 138) (by decide +kernel) rfl, lg_1 (i := 27) (by decide +kernel) rfl, ⟨by decide +kernel, by decide +kernel⟩, par_ok (by decide +kernel), by decide +kernel⟩
def mX3_holdsAt : MD := (yX3_holdsAt, cX3_holdsAt, 6, (some FieldType.boolean), [], (1, 0, 0), cfX3)
theorem mX3_holdsAt_ok : MOk mX3_holdsAt 2 := ⟨lg_2 (i := 135) (by decide +kernel) rfl, lg_1 (i := 27) (by decide +kernel) rfl, ⟨by decide +kernel, by decide +kernel⟩, par_ok (by decide +kernel), by decide +kernel⟩
def mX6_turned : MD := (yX6_turned, cX6_turned, 5, (some FieldType.int), [], (0, 0, 0), cfX6)
theorem mX6_turned_ok : MOk mX6_turned 2 := ⟨lg_2 (i := 146) (by decide +kernel) rfl, lg_1 (i := 2) (by decide +kernel) rfl, ⟨by decide +kernel, by decide +kernel⟩, par_ok (by decide +kernel), by decide +kernel⟩
def mX3_heirOf : MD := (yX3_heirOf, cX3_heirOf, 3, (some FieldType.int), [], (1, 0, 0), cfX3)
theorem mX3_heirOf_ok : MOk mX3_heirOf 2 := ⟨lg_2 (i := 142) (by decide +kernel) rfl, lg_1 (i := 27) (by decide +kernel) rfl, ⟨by decide +kernel, by decide +kernel⟩, par_ok (by decide +kernel), by decide +kernel⟩
def mX3_goOver : MD := (yX3_goOver, cX3_goOver, 9, (some FieldType.long), [], (2, 0, 0), cfX3)
theorem mX3_goOver_ok : MOk mX3_goOver 2 := ⟨lg_2 (i := 124) (by decide +kernel) rfl, lg_1 (i := 27) (by decide +kernel) rfl, ⟨by decide +kernel, by decide +kernel⟩, par_ok (by decide +kernel), by decide +kernel⟩
def mX4_tellWord : MD := (yX4_tellWord, cX4_tellWord, 8, none, [], (4, 0, 0), cfX4)
theorem mX4_tellWord_ok : MOk mX4_tellWord 2 := ⟨lg_2 (i := 84) (by decide +kernel) rfl, lg_1 (i := 12) (by decide +kernel) rfl, ⟨by decide +kernel, by decide +kernel⟩, par_ok (by decide +kernel), by decide +kernel⟩
def mX4_freshen : MD := (yX4_freshen, cX4_freshen, 3, none, [], (5, 0, 0), cfX4)
theorem mX4_freshen_ok : MOk mX4_freshen 1 := ⟨lg_2 (i := 79) (by decide +kernel) rfl, lg_1 (i := 12) (by decide +kernel) rfl, ⟨by decide +kernel, by decide +kernel⟩, par_ok (by decide +kernel), by decide +kernel⟩
def mX4_wordOf : MD := (yX4_wordOf, cX4_wordOf, 3, (some FieldType.long), [], (1, 0, 0), cfX4)
theorem mX4_wordOf_ok : MOk mX4_wordOf 2 := ⟨lg_2 (i := 174) (by decide +kernel) rfl, lg_1 (i := 12) (by decide +kernel) rfl, ⟨by decide +kernel, by decide +kernel⟩, par_ok (by decide +kernel), by decide +kernel⟩
def mX9_length : MD := (yX9_length, cX9_length, 3, (some FieldType.int), [], (7, 1, 6), cfX9)
theorem mX9_length_ok : MOk mX9_length 2 := ⟨lg_4 (i := 99) (by decide +kernel) rfl, lg_1 (i := 1) (by decide +kernel) rfl, ⟨by decide +kernel, by decide +kernel⟩, par_ok (by decide +kernel), by decide +kernel⟩
def mL_length : MD := (yL_length, cL_length, 5, (some FieldType.int), [(0, 10, 13, 27)], (8, 1, 6), cfL)
theorem mL_length_ok : MOk mL_length 4 := ⟨lg_4 (i := 95) (by decide +kernel) rfl, lg_1 (i := 0) (by decide +kernel) rfl, ⟨by decide +kernel, by decide +kernel⟩, par_ok (by decide +kernel), by decide +kernel⟩
def mX10_borrow : MD := (yX10_borrow, cX10_borrow, 10, none, [], (0, 0, 0), cfX10)
theorem mX10_borrow_ok : MOk mX10_borrow 4 := ⟨lg_7 (i := 17) (by decide +kernel) rfl, lg_1 (i := 15) (by decide +kernel) rfl, ⟨by decide +kernel, by decide +kernel⟩, par_ok (by decide +kernel), by decide +kernel⟩
def mX10_at : MD := (yX10_at, cX10_at, 6, (some FieldType.int), [], (1, 0, 0), cfX10)
theorem mX10_at_ok : MOk mX10_at 2 := ⟨lg_7 (i := 24) (by decide +kernel) rfl, lg_1 (i := 15) (by decide +kernel) rfl, ⟨by decide +kernel, by decide +kernel⟩, par_ok (by decide +kernel), by decide +kernel⟩
def mX10_isBeside : MD := (yX10_isBeside, cX10_isBeside, 3, (some FieldType.boolean), [], (0, 0, 0), cfX10)
theorem mX10_isBeside_ok : MOk mX10_isBeside 3 := ⟨lg_7 (i := 27) (by decide +kernel) rfl, lg_1 (i := 15) (by decide +kernel) rfl, ⟨by decide +kernel, by decide +kernel⟩, par_ok (by decide +kernel), by decide +kernel⟩
def mX10_turned : MD := (yX10_turned, cX10_turned, 4, (some FieldType.int), [], (0, 0, 0), cfX10)
theorem mX10_turned_ok : MOk mX10_turned 2 := ⟨lg_7 (i := 31) (by decide +kernel) rfl, lg_1 (i := 15) (by decide +kernel) rfl, ⟨by decide +kernel, by decide +kernel⟩, par_ok (by decide +kernel), by decide +kernel⟩
def mX10_changed : MD := (yX10_changed, cX10_changed, 11, (some FieldType.long), [], (2, 0, 0), cfX10)
theorem mX10_changed_ok : MOk mX10_changed 2 := ⟨lg_7 (i := 21) (by decide +kernel) rfl, lg_1 (i := 15) (by decide +kernel) rfl, ⟨by decide +kernel, by decide +kernel⟩, par_ok (by decide +kernel), by decide +kernel⟩
def mX10_grow : MD := (yX10_grow, cX10_grow, 7, none, [], (3, 0, 0), cfX10)
theorem mX10_grow_ok : MOk mX10_grow 2 := ⟨lg_7 (i := 13) (by decide +kernel) rfl, lg_1 (i := 15) (by decide +kernel) rfl, ⟨by decide +kernel, by decide +kernel⟩, par_ok (by decide +kernel), by decide +kernel⟩
def mX10_solve : MD := (yX10_solve, cX10_solve, 3, none, [], (4, 0, 0), cfX10)
theorem mX10_solve_ok : MOk mX10_solve 0 := ⟨lg_7 (i := 9) (by decide +kernel) rfl, lg_1 (i := 15) (by decide +kernel) rfl, ⟨by decide +kernel, by decide +kernel⟩, par_ok (by decide +kernel), by decide +kernel⟩
def mX10_isAsked : MD := (yX10_isAsked, cX10_isAsked, 3, (some FieldType.boolean), [], (5, 0, 0), cfX10)
theorem mX10_isAsked_ok : MOk mX10_isAsked 2 := ⟨lg_7 (i := 5) (by decide +kernel) rfl, lg_1 (i := 15) (by decide +kernel) rfl, ⟨by decide +kernel, by decide +kernel⟩, par_ok (by decide +kernel), by decide +kernel⟩
def mX10_wordOf : MD := (yX10_wordOf, cX10_wordOf, 3, (some FieldType.long), [], (0, 0, 0), cfX10)
theorem mX10_wordOf_ok : MOk mX10_wordOf 2 := ⟨lg_7 (i := 35) (by decide +kernel) rfl, lg_1 (i := 15) (by decide +kernel) rfl, ⟨by decide +kernel, by decide +kernel⟩, par_ok (by decide +kernel), by decide +kernel⟩
def mX10_length_ : MD := (yX10_length_, cX10_length_, 3, (some FieldType.int), [], (6, 0, 0), cfX10)
theorem mX10_length__ok : MOk mX10_length_ 2 := ⟨lg_7 (i := 1) (by decide +kernel) rfl, lg_1 (i := 15) (by decide +kernel) rfl, ⟨by decide +kernel, by decide +kernel⟩, par_ok (by decide +kernel), by decide +kernel⟩
def mX9_soundIn : MD := (yX9_soundIn, cX9_soundIn, 3, (some FieldType.int), [], (7, 1, 6), cfX9)
theorem mX9_soundIn_ok : MOk mX9_soundIn 2 := ⟨lg_4 (i := 110) (by decide +kernel) rfl, lg_1 (i := 1) (by decide +kernel) rfl, ⟨by decide +kernel, by decide +kernel⟩, par_ok (by decide +kernel), by decide +kernel⟩
def mX9_soundAt : MD := (yX9_soundAt, cX9_soundAt, 4, (some FieldType.int), [], (8, 2, 12), cfX9)
theorem mX9_soundAt_ok : MOk mX9_soundAt 3 := ⟨lg_4 (i := 107) (by decide +kernel) rfl, lg_1 (i := 1) (by decide +kernel) rfl, ⟨by decide +kernel, by decide +kernel⟩, par_ok (by decide +kernel), by decide +kernel⟩
def mL_soundAt : MD := (yL_soundAt, cL_soundAt, 6, (some FieldType.int), [(0, 12, 15, 27)], (9, 2, 12), cfL)
theorem mL_soundAt_ok : MOk mL_soundAt 5 := ⟨lg_4 (i := 103) (by decide +kernel) rfl, lg_1 (i := 0) (by decide +kernel) rfl, ⟨by decide +kernel, by decide +kernel⟩, par_ok (by decide +kernel), by decide +kernel⟩
def mX10_soundAt : MD := (yX10_soundAt, cX10_soundAt, 4, (some FieldType.int), [], (6, 0, 0), cfX10)
theorem mX10_soundAt_ok : MOk mX10_soundAt 3 := ⟨lg_7 (i := 39) (by decide +kernel) rfl, lg_1 (i := 15) (by decide +kernel) rfl, ⟨by decide +kernel, by decide +kernel⟩, par_ok (by decide +kernel), by decide +kernel⟩
def mX4_originOf : MD := (yX4_originOf, cX4_originOf, 3, (some FieldType.int), [], (1, 0, 0), cfX4)
theorem mX4_originOf_ok : MOk mX4_originOf 2 := ⟨lg_2 (i := 237) (by decide +kernel) rfl, lg_1 (i := 12) (by decide +kernel) rfl, ⟨by decide +kernel, by decide +kernel⟩, par_ok (by decide +kernel), by decide +kernel⟩
def mX9_origin : MD := (yX9_origin, cX9_origin, 3, (some FieldType.int), [], (7, 1, 6), cfX9)
theorem mX9_origin_ok : MOk mX9_origin 2 := ⟨lg_4 (i := 117) (by decide +kernel) rfl, lg_1 (i := 1) (by decide +kernel) rfl, ⟨by decide +kernel, by decide +kernel⟩, par_ok (by decide +kernel), by decide +kernel⟩
def mL_origin : MD := (yL_origin, cL_origin, 5, (some FieldType.int), [(0, 10, 13, 27)], (8, 1, 6), cfL)
theorem mL_origin_ok : MOk mL_origin 4 := ⟨lg_4 (i := 113) (by decide +kernel) rfl, lg_1 (i := 0) (by decide +kernel) rfl, ⟨by decide +kernel, by decide +kernel⟩, par_ok (by decide +kernel), by decide +kernel⟩
def mX10_hasWord : MD := (yX10_hasWord, cX10_hasWord, 3, (some FieldType.boolean), [], (1, 0, 0), cfX10)
theorem mX10_hasWord_ok : MOk mX10_hasWord 2 := ⟨lg_7 (i := 51) (by decide +kernel) rfl, lg_1 (i := 15) (by decide +kernel) rfl, ⟨by decide +kernel, by decide +kernel⟩, par_ok (by decide +kernel), by decide +kernel⟩
def mX10_originOf : MD := (yX10_originOf, cX10_originOf, 3, (some FieldType.int), [], (2, 0, 0), cfX10)
theorem mX10_originOf_ok : MOk mX10_originOf 2 := ⟨lg_7 (i := 47) (by decide +kernel) rfl, lg_1 (i := 15) (by decide +kernel) rfl, ⟨by decide +kernel, by decide +kernel⟩, par_ok (by decide +kernel), by decide +kernel⟩
def mX10_origin : MD := (yX10_origin, cX10_origin, 3, (some FieldType.int), [], (6, 0, 0), cfX10)
theorem mX10_origin_ok : MOk mX10_origin 2 := ⟨lg_7 (i := 43) (by decide +kernel) rfl, lg_1 (i := 15) (by decide +kernel) rfl, ⟨by decide +kernel, by decide +kernel⟩, par_ok (by decide +kernel), by decide +kernel⟩
def mX4_changersOf : MD := (yX4_changersOf, cX4_changersOf, 3, (some FieldType.int), [], (1, 0, 0), cfX4)
theorem mX4_changersOf_ok : MOk mX4_changersOf 2 := ⟨lg_3 (i := 59) (by decide +kernel) rfl, lg_1 (i := 12) (by decide +kernel) rfl, ⟨by decide +kernel, by decide +kernel⟩, par_ok (by decide +kernel), by decide +kernel⟩
def mX9_changedBy : MD := (yX9_changedBy, cX9_changedBy, 3, (some FieldType.int), [], (7, 1, 6), cfX9)
theorem mX9_changedBy_ok : MOk mX9_changedBy 2 := ⟨lg_4 (i := 124) (by decide +kernel) rfl, lg_1 (i := 1) (by decide +kernel) rfl, ⟨by decide +kernel, by decide +kernel⟩, par_ok (by decide +kernel), by decide +kernel⟩
def mL_changedBy : MD := (yL_changedBy, cL_changedBy, 5, (some FieldType.int), [(0, 10, 13, 27)], (8, 1, 6), cfL)
theorem mL_changedBy_ok : MOk mL_changedBy 4 := ⟨lg_4 (i := 120) (by decide +kernel) rfl, lg_1 (i := 0) (by decide +kernel) rfl, ⟨by decide +kernel, by decide +kernel⟩, par_ok (by decide +kernel), by decide +kernel⟩
def mX10_changesOf : MD := (yX10_changesOf, cX10_changesOf, 3, (some FieldType.int), [], (2, 0, 0), cfX10)
theorem mX10_changesOf_ok : MOk mX10_changesOf 2 := ⟨lg_7 (i := 59) (by decide +kernel) rfl, lg_1 (i := 15) (by decide +kernel) rfl, ⟨by decide +kernel, by decide +kernel⟩, par_ok (by decide +kernel), by decide +kernel⟩
def mX10_changedBy : MD := (yX10_changedBy, cX10_changedBy, 3, (some FieldType.int), [], (6, 0, 0), cfX10)
theorem mX10_changedBy_ok : MOk mX10_changedBy 2 := ⟨lg_7 (i := 55) (by decide +kernel) rfl, lg_1 (i := 15) (by decide +kernel) rfl, ⟨by decide +kernel, by decide +kernel⟩, par_ok (by decide +kernel), by decide +kernel⟩
def mX4_freshenAll : MD := (yX4_freshenAll, cX4_freshenAll, 2, none, [], (6, 0, 0), cfX4)
theorem mX4_freshenAll_ok : MOk mX4_freshenAll 0 := ⟨lg_2 (i := 75) (by decide +kernel) rfl, lg_1 (i := 12) (by decide +kernel) rfl, ⟨by decide +kernel, by decide +kernel⟩, par_ok (by decide +kernel), by decide +kernel⟩
def mX9_countWords : MD := (yX9_countWords, cX9_countWords, 4, (some FieldType.int), [], (2, 0, 0), cfX9)
theorem mX9_countWords_ok : MOk mX9_countWords 1 := ⟨lg_2 (i := 165) (by decide +kernel) rfl, lg_1 (i := 1) (by decide +kernel) rfl, ⟨by decide +kernel, by decide +kernel⟩, par_ok (by decide +kernel), by decide +kernel⟩
def mX9_wealth : MD := (yX9_wealth, cX9_wealth, 2, (some FieldType.int), [], (7, 1, 6), cfX9)
theorem mX9_wealth_ok : MOk mX9_wealth 1 := ⟨lg_4 (i := 131) (by decide +kernel) rfl, lg_1 (i := 1) (by decide +kernel) rfl, ⟨by decide +kernel, by decide +kernel⟩, par_ok (by decide +kernel), by decide +kernel⟩
def mL_wealth : MD := (yL_wealth, cL_wealth, 4, (some FieldType.int), [(0, 9, 12, 27)], (8, 1, 6), cfL)
theorem mL_wealth_ok : MOk mL_wealth 3 := ⟨lg_4 (i := 127) (by decide +kernel) rfl, lg_1 (i := 0) (by decide +kernel) rfl, ⟨by decide +kernel, by decide +kernel⟩, par_ok (by decide +kernel), by decide +kernel⟩
def mX10_wealthOf : MD := (yX10_wealthOf, cX10_wealthOf, 4, (some FieldType.int), [], (2, 0, 0), cfX10)
theorem mX10_wealthOf_ok : MOk mX10_wealthOf 1 := ⟨lg_7 (i := 67) (by decide +kernel) rfl, lg_1 (i := 15) (by decide +kernel) rfl, ⟨by decide +kernel, by decide +kernel⟩, par_ok (by decide +kernel), by decide +kernel⟩
def mX10_wealth : MD := (yX10_wealth, cX10_wealth, 2, (some FieldType.int), [], (6, 0, 0), cfX10)
theorem mX10_wealth_ok : MOk mX10_wealth 1 := ⟨lg_7 (i := 63) (by decide +kernel) rfl, lg_1 (i := 15) (by decide +kernel) rfl, ⟨by decide +kernel, by decide +kernel⟩, par_ok (by decide +kernel), by decide +kernel⟩
def mX9_countAlike : MD := (yX9_countAlike, cX9_countAlike, 6, (some FieldType.int), [], (2, 0, 0), cfX9)
theorem mX9_countAlike_ok : MOk mX9_countAlike 1 := ⟨lg_2 (i := 170) (by decide +kernel) rfl, lg_1 (i := 1) (by decide +kernel) rfl, ⟨by decide +kernel, by decide +kernel⟩, par_ok (by decide +kernel), by decide +kernel⟩
def mX9_alike : MD := (yX9_alike, cX9_alike, 2, (some FieldType.int), [], (7, 1, 6), cfX9)
theorem mX9_alike_ok : MOk mX9_alike 1 := ⟨lg_4 (i := 138) (by decide +kernel) rfl, lg_1 (i := 1) (by decide +kernel) rfl, ⟨by decide +kernel, by decide +kernel⟩, par_ok (by decide +kernel), by decide +kernel⟩
def mL_alike : MD := (yL_alike, cL_alike, 4, (some FieldType.int), [(0, 9, 12, 27)], (8, 1, 6), cfL)
theorem mL_alike_ok : MOk mL_alike 3 := ⟨lg_4 (i := 134) (by decide +kernel) rfl, lg_1 (i := 0) (by decide +kernel) rfl, ⟨by decide +kernel, by decide +kernel⟩, par_ok (by decide +kernel), by decide +kernel⟩
def mX10_alikeIn : MD := (yX10_alikeIn, cX10_alikeIn, 5, (some FieldType.int), [], (2, 0, 0), cfX10)
theorem mX10_alikeIn_ok : MOk mX10_alikeIn 1 := ⟨lg_7 (i := 75) (by decide +kernel) rfl, lg_1 (i := 15) (by decide +kernel) rfl, ⟨by decide +kernel, by decide +kernel⟩, par_ok (by decide +kernel), by decide +kernel⟩
def mX10_alike : MD := (yX10_alike, cX10_alike, 2, (some FieldType.int), [], (6, 0, 0), cfX10)
theorem mX10_alike_ok : MOk mX10_alike 1 := ⟨lg_7 (i := 71) (by decide +kernel) rfl, lg_1 (i := 15) (by decide +kernel) rfl, ⟨by decide +kernel, by decide +kernel⟩, par_ok (by decide +kernel), by decide +kernel⟩
def mX9_collectSounds : MD := (yX9_collectSounds, cX9_collectSounds, 7, (some FieldType.int), [], (2, 0, 0), cfX9)
theorem mX9_collectSounds_ok : MOk mX9_collectSounds 1 := ⟨lg_2 (i := 178) (by decide +kernel) rfl, lg_1 (i := 1) (by decide +kernel) rfl, ⟨by decide +kernel, by decide +kernel⟩, par_ok (by decide +kernel), by decide +kernel⟩
def mX9_soundsOf : MD := (yX9_soundsOf, cX9_soundsOf, 2, (some FieldType.int), [], (7, 1, 6), cfX9)
theorem mX9_soundsOf_ok : MOk mX9_soundsOf 1 := ⟨lg_4 (i := 145) (by decide +kernel) rfl, lg_1 (i := 1) (by decide +kernel) rfl, ⟨by decide +kernel, by decide +kernel⟩, par_ok (by decide +kernel), by decide +kernel⟩
def mL_soundsOf : MD := (yL_soundsOf, cL_soundsOf, 4, (some FieldType.int), [(0, 9, 12, 27)], (8, 1, 6), cfL)
theorem mL_soundsOf_ok : MOk mL_soundsOf 3 := ⟨lg_4 (i := 141) (by decide +kernel) rfl, lg_1 (i := 0) (by decide +kernel) rfl, ⟨by decide +kernel, by decide +kernel⟩, par_ok (by decide +kernel), by decide +kernel⟩
def mX10_soundsIn : MD := (yX10_soundsIn, cX10_soundsIn, 5, (some FieldType.int), [], (2, 0, 0), cfX10)
theorem mX10_soundsIn_ok : MOk mX10_soundsIn 1 := ⟨lg_7 (i := 83) (by decide +kernel) rfl, lg_1 (i := 15) (by decide +kernel) rfl, ⟨by decide +kernel, by decide +kernel⟩, par_ok (by decide +kernel), by decide +kernel⟩
def mX10_soundsOf : MD := (yX10_soundsOf, cX10_soundsOf, 2, (some FieldType.int), [], (6, 0, 0), cfX10)
theorem mX10_soundsOf_ok : MOk mX10_soundsOf 1 := ⟨lg_7 (i := 79) (by decide +kernel) rfl, lg_1 (i := 15) (by decide +kernel) rfl, ⟨by decide +kernel, by decide +kernel⟩, par_ok (by decide +kernel), by decide +kernel⟩
def mX4_bothHave : MD := (yX4_bothHave, cX4_bothHave, 4, (some FieldType.boolean), [], (2, 0, 0), cfX4)
theorem mX4_bothHave_ok : MOk mX4_bothHave 3 := ⟨lg_2 (i := 199) (by decide +kernel) rfl, lg_1 (i := 12) (by decide +kernel) rfl, ⟨by decide +kernel, by decide +kernel⟩, par_ok (by decide +kernel), by decide +kernel⟩
def mX0_spellOut : MD := (yX0_spellOut, cX0_spellOut, 5, (some FieldType.int), [], (1, 0, 0), cfX0)
theorem mX0_spellOut_ok : MOk mX0_spellOut 2 := ⟨lg_2 (i := 206) (by decide +kernel) rfl, lg_1 (i := 13) (by decide +kernel) rfl, ⟨by decide +kernel, by decide +kernel⟩, par_ok (by decide +kernel), by decide +kernel⟩
def mX0_pairFrom : MD := (yX0_pairFrom, cX0_pairFrom, 3, (some FieldType.int), [], (0, 0, 0), cfX0)
theorem mX0_pairFrom_ok : MOk mX0_pairFrom 2 := ⟨lg_2 (i := 217) (by decide +kernel) rfl, lg_1 (i := 13) (by decide +kernel) rfl, ⟨by decide +kernel, by decide +kernel⟩, par_ok (by decide +kernel), by decide +kernel⟩
def mX0_leastFrom : MD := (yX0_leastFrom, cX0_leastFrom, 4, (some FieldType.int), [], (1, 0, 0), cfX0)
theorem mX0_leastFrom_ok : MOk mX0_leastFrom 2 := ⟨lg_2 (i := 213) (by decide +kernel) rfl, lg_1 (i := 13) (by decide +kernel) rfl, ⟨by decide +kernel, by decide +kernel⟩, par_ok (by decide +kernel), by decide +kernel⟩
def mX0_weigh : MD := (yX0_weigh, cX0_weigh, 7, (some FieldType.int), [], (2, 0, 0), cfX0)
theorem mX0_weigh_ok : MOk mX0_weigh 2 := ⟨lg_2 (i := 203) (by decide +kernel) rfl, lg_1 (i := 13) (by decide +kernel) rfl, ⟨by decide +kernel, by decide +kernel⟩, par_ok (by decide +kernel), by decide +kernel⟩
def mX9_leastCost : MD := (yX9_leastCost, cX9_leastCost, 5, (some FieldType.int), [], (3, 0, 0), cfX9)
theorem mX9_leastCost_ok : MOk mX9_leastCost 3 := ⟨lg_2 (i := 193) (by decide +kernel) rfl, lg_1 (i := 1) (by decide +kernel) rfl, ⟨by decide +kernel, by decide +kernel⟩, par_ok (by decide +kernel), by decide +kernel⟩
def mX9_cost : MD := (yX9_cost, cX9_cost, 4, (some FieldType.int), [], (7, 2, 12), cfX9)
theorem mX9_cost_ok : MOk mX9_cost 3 := ⟨lg_4 (i := 152) (by decide +kernel) rfl, lg_1 (i := 1) (by decide +kernel) rfl, ⟨by decide +kernel, by decide +kernel⟩, par_ok (by decide +kernel), by decide +kernel⟩
def mL_cost : MD := (yL_cost, cL_cost, 6, (some FieldType.int), [(0, 12, 15, 27), (0, 12, 19, 13)], (8, 2, 12), cfL)
theorem mL_cost_ok : MOk mL_cost 5 := ⟨lg_4 (i := 148) (by decide +kernel) rfl, lg_1 (i := 0) (by decide +kernel) rfl, ⟨by decide +kernel, by decide +kernel⟩, par_ok (by decide +kernel), by decide +kernel⟩
def mX10_areAsked : MD := (yX10_areAsked, cX10_areAsked, 4, (some FieldType.boolean), [], (5, 0, 0), cfX10)
theorem mX10_areAsked_ok : MOk mX10_areAsked 3 := ⟨lg_7 (i := 91) (by decide +kernel) rfl, lg_1 (i := 15) (by decide +kernel) rfl, ⟨by decide +kernel, by decide +kernel⟩, par_ok (by decide +kernel), by decide +kernel⟩
def mX10_spread : MD := (yX10_spread, cX10_spread, 7, (some FieldType.int), [], (1, 0, 0), cfX10)
theorem mX10_spread_ok : MOk mX10_spread 2 := ⟨lg_7 (i := 102) (by decide +kernel) rfl, lg_1 (i := 15) (by decide +kernel) rfl, ⟨by decide +kernel, by decide +kernel⟩, par_ok (by decide +kernel), by decide +kernel⟩
def mX10_costOf : MD := (yX10_costOf, cX10_costOf, 5, (some FieldType.int), [], (0, 0, 0), cfX10)
theorem mX10_costOf_ok : MOk mX10_costOf 2 := ⟨lg_7 (i := 107) (by decide +kernel) rfl, lg_1 (i := 15) (by decide +kernel) rfl, ⟨by decide +kernel, by decide +kernel⟩, par_ok (by decide +kernel), by decide +kernel⟩
def mX10_restAt : MD := (yX10_restAt, cX10_restAt, 3, (some FieldType.int), [], (0, 0, 0), cfX10)
theorem mX10_restAt_ok : MOk mX10_restAt 2 := ⟨lg_7 (i := 111) (by decide +kernel) rfl, lg_1 (i := 15) (by decide +kernel) rfl, ⟨by decide +kernel, by decide +kernel⟩, par_ok (by decide +kernel), by decide +kernel⟩
def mX10_align : MD := (yX10_align, cX10_align, 11, (some FieldType.int), [], (2, 0, 0), cfX10)
theorem mX10_align_ok : MOk mX10_align 2 := ⟨lg_7 (i := 99) (by decide +kernel) rfl, lg_1 (i := 15) (by decide +kernel) rfl, ⟨by decide +kernel, by decide +kernel⟩, par_ok (by decide +kernel), by decide +kernel⟩
def mX10_costNow : MD := (yX10_costNow, cX10_costNow, 4, (some FieldType.int), [], (3, 0, 0), cfX10)
theorem mX10_costNow_ok : MOk mX10_costNow 3 := ⟨lg_7 (i := 95) (by decide +kernel) rfl, lg_1 (i := 15) (by decide +kernel) rfl, ⟨by decide +kernel, by decide +kernel⟩, par_ok (by decide +kernel), by decide +kernel⟩
def mX10_cost : MD := (yX10_cost, cX10_cost, 4, (some FieldType.int), [], (6, 0, 0), cfX10)
theorem mX10_cost_ok : MOk mX10_cost 3 := ⟨lg_7 (i := 87) (by decide +kernel) rfl, lg_1 (i := 15) (by decide +kernel) rfl, ⟨by decide +kernel, by decide +kernel⟩, par_ok (by decide +kernel), by decide +kernel⟩
def mX0_takesPair : MD := (yX0_takesPair, cX0_takesPair, 3, (some FieldType.boolean), [], (1, 0, 0), cfX0)
theorem mX0_takesPair_ok : MOk mX0_takesPair 2 := ⟨lg_3 (i := 19) (by decide +kernel) rfl, lg_1 (i := 13) (by decide +kernel) rfl, ⟨by decide +kernel, by decide +kernel⟩, par_ok (by decide +kernel), by decide +kernel⟩
def mX0_takesFirstAlone : MD := (yX0_takesFirstAlone, cX0_takesFirstAlone, 3, (some FieldType.boolean), [], (0, 0, 0), cfX0)
theorem mX0_takesFirstAlone_ok : MOk mX0_takesFirstAlone 2 := ⟨lg_3 (i := 23) (by decide +kernel) rfl, lg_1 (i := 13) (by decide +kernel) rfl, ⟨by decide +kernel, by decide +kernel⟩, par_ok (by decide +kernel), by decide +kernel⟩
def mX0_align : MD := (yX0_align, cX0_align, 11, (some FieldType.int), [], (3, 0, 0), cfX0)
theorem mX0_align_ok : MOk mX0_align 2 := ⟨lg_3 (i := 14) (by decide +kernel) rfl, lg_1 (i := 13) (by decide +kernel) rfl, ⟨by decide +kernel, by decide +kernel⟩, par_ok (by decide +kernel), by decide +kernel⟩
def mX9_layOut : MD := (yX9_layOut, cX9_layOut, 4, (some FieldType.int), [], (4, 0, 0), cfX9)
theorem mX9_layOut_ok : MOk mX9_layOut 3 := ⟨lg_4 (i := 163) (by decide +kernel) rfl, lg_1 (i := 1) (by decide +kernel) rfl, ⟨by decide +kernel, by decide +kernel⟩, par_ok (by decide +kernel), by decide +kernel⟩
def mX9_columns : MD := (yX9_columns, cX9_columns, 4, (some FieldType.int), [], (7, 2, 12), cfX9)
theorem mX9_columns_ok : MOk mX9_columns 3 := ⟨lg_4 (i := 159) (by decide +kernel) rfl, lg_1 (i := 1) (by decide +kernel) rfl, ⟨by decide +kernel, by decide +kernel⟩, par_ok (by decide +kernel), by decide +kernel⟩
def mL_columns : MD := (yL_columns, cL_columns, 6, (some FieldType.int), [(0, 12, 15, 27), (0, 12, 19, 13)], (8, 2, 12), cfL)
theorem mL_columns_ok : MOk mL_columns 5 := ⟨lg_4 (i := 155) (by decide +kernel) rfl, lg_1 (i := 0) (by decide +kernel) rfl, ⟨by decide +kernel, by decide +kernel⟩, par_ok (by decide +kernel), by decide +kernel⟩
def mX10_columnsNow : MD := (yX10_columnsNow, cX10_columnsNow, 4, (some FieldType.int), [], (4, 0, 0), cfX10)
theorem mX10_columnsNow_ok : MOk mX10_columnsNow 3 := ⟨lg_7 (i := 120) (by decide +kernel) rfl, lg_1 (i := 15) (by decide +kernel) rfl, ⟨by decide +kernel, by decide +kernel⟩, par_ok (by decide +kernel), by decide +kernel⟩
def mX10_columns : MD := (yX10_columns, cX10_columns, 4, (some FieldType.int), [], (6, 0, 0), cfX10)
theorem mX10_columns_ok : MOk mX10_columns 3 := ⟨lg_7 (i := 116) (by decide +kernel) rfl, lg_1 (i := 15) (by decide +kernel) rfl, ⟨by decide +kernel, by decide +kernel⟩, par_ok (by decide +kernel), by decide +kernel⟩
def mX0_upperAt : MD := (yX0_upperAt, cX0_upperAt, 2, (some FieldType.int), [], (0, 0, 0), cfX0)
theorem mX0_upperAt_ok : MOk mX0_upperAt 1 := ⟨lg_3 (i := 31) (by decide +kernel) rfl, lg_1 (i := 13) (by decide +kernel) rfl, ⟨by decide +kernel, by decide +kernel⟩, par_ok (by decide +kernel), by decide +kernel⟩
def mX0_lowerAt : MD := (yX0_lowerAt, cX0_lowerAt, 2, (some FieldType.int), [], (0, 0, 0), cfX0)
theorem mX0_lowerAt_ok : MOk mX0_lowerAt 1 := ⟨lg_3 (i := 35) (by decide +kernel) rfl, lg_1 (i := 13) (by decide +kernel) rfl, ⟨by decide +kernel, by decide +kernel⟩, par_ok (by decide +kernel), by decide +kernel⟩
def mX9_columnAt : MD := (yX9_columnAt, cX9_columnAt, 5, (some FieldType.int), [], (7, 3, 18), cfX9)
theorem mX9_columnAt_ok : MOk mX9_columnAt 4 := ⟨lg_4 (i := 170) (by decide +kernel) rfl, lg_1 (i := 1) (by decide +kernel) rfl, ⟨by decide +kernel, by decide +kernel⟩, par_ok (by decide +kernel), by decide +kernel⟩
def mL_columnAt : MD := (yL_columnAt, cL_columnAt, 7, (some FieldType.int), [(0, 14, 17, 27), (0, 14, 21, 13)], (8, 3, 18), cfL)
theorem mL_columnAt_ok : MOk mL_columnAt 6 := ⟨lg_4 (i := 166) (by decide +kernel) rfl, lg_1 (i := 0) (by decide +kernel) rfl, ⟨by decide +kernel, by decide +kernel⟩, par_ok (by decide +kernel), by decide +kernel⟩
def mX10_columnAt : MD := (yX10_columnAt, cX10_columnAt, 5, (some FieldType.int), [], (6, 0, 0), cfX10)
theorem mX10_columnAt_ok : MOk mX10_columnAt 4 := ⟨lg_7 (i := 124) (by decide +kernel) rfl, lg_1 (i := 15) (by decide +kernel) rfl, ⟨by decide +kernel, by decide +kernel⟩, par_ok (by decide +kernel), by decide +kernel⟩
def mX9_isSoundOrNone : MD := (yX9_isSoundOrNone, cX9_isSoundOrNone, 1, (some FieldType.boolean), [], (1, 0, 0), cfX9)
theorem mX9_isSoundOrNone_ok : MOk mX9_isSoundOrNone 1 := ⟨lg_4 (i := 180) (by decide +kernel) rfl, lg_1 (i := 1) (by decide +kernel) rfl, ⟨by decide +kernel, by decide +kernel⟩, par_ok (by decide +kernel), by decide +kernel⟩
def mX9_columnSign : MD := (yX9_columnSign, cX9_columnSign, 1, (some FieldType.int), [], (0, 0, 0), cfX9)
theorem mX9_columnSign_ok : MOk mX9_columnSign 1 := ⟨lg_4 (i := 183) (by decide +kernel) rfl, lg_1 (i := 1) (by decide +kernel) rfl, ⟨by decide +kernel, by decide +kernel⟩, par_ok (by decide +kernel), by decide +kernel⟩
def mX7_clear : MD := (yX7_clear, cX7_clear, 1, none, [], (1, 0, 0), cfX7)
theorem mX7_clear_ok : MOk mX7_clear 0 := ⟨lg_3 (i := 5) (by decide +kernel) rfl, lg_1 (i := 14) (by decide +kernel) rfl, ⟨by decide +kernel, by decide +kernel⟩, par_ok (by decide +kernel), by decide +kernel⟩
def mX4_areKin : MD := (yX4_areKin, cX4_areKin, 4, (some FieldType.boolean), [], (2, 0, 0), cfX4)
theorem mX4_areKin_ok : MOk mX4_areKin 3 := ⟨lg_2 (i := 233) (by decide +kernel) rfl, lg_1 (i := 12) (by decide +kernel) rfl, ⟨by decide +kernel, by decide +kernel⟩, par_ok (by decide +kernel), by decide +kernel⟩
def mX7_add : MD := (yX7_add, cX7_add, 2, none, [], (0, 0, 0), cfX7)
theorem mX7_add_ok : MOk mX7_add 1 := ⟨lg_3 (i := 10) (by decide +kernel) rfl, lg_1 (i := 14) (by decide +kernel) rfl, ⟨by decide +kernel, by decide +kernel⟩, par_ok (by decide +kernel), by decide +kernel⟩
def mX9_collectAnswers : MD := (yX9_collectAnswers, cX9_collectAnswers, 7, none, [], (5, 0, 0), cfX9)
theorem mX9_collectAnswers_ok : MOk mX9_collectAnswers 3 := ⟨lg_4 (i := 187) (by decide +kernel) rfl, lg_1 (i := 1) (by decide +kernel) rfl, ⟨by decide +kernel, by decide +kernel⟩, par_ok (by decide +kernel), by decide +kernel⟩
def mX7_countOf : MD := (yX7_countOf, cX7_countOf, 2, (some FieldType.int), [], (0, 0, 0), cfX7)
theorem mX7_countOf_ok : MOk mX7_countOf 1 := ⟨lg_4 (i := 191) (by decide +kernel) rfl, lg_1 (i := 14) (by decide +kernel) rfl, ⟨by decide +kernel, by decide +kernel⟩, par_ok (by decide +kernel), by decide +kernel⟩
def mX9_answers : MD := (yX9_answers, cX9_answers, 5, (some FieldType.int), [], (7, 2, 12), cfX9)
theorem mX9_answers_ok : MOk mX9_answers 4 := ⟨lg_4 (i := 177) (by decide +kernel) rfl, lg_1 (i := 1) (by decide +kernel) rfl, ⟨by decide +kernel, by decide +kernel⟩, par_ok (by decide +kernel), by decide +kernel⟩
def mL_answers : MD := (yL_answers, cL_answers, 7, (some FieldType.int), [(0, 14, 17, 27), (0, 14, 21, 13)], (8, 2, 12), cfL)
theorem mL_answers_ok : MOk mL_answers 6 := ⟨lg_4 (i := 173) (by decide +kernel) rfl, lg_1 (i := 0) (by decide +kernel) rfl, ⟨by decide +kernel, by decide +kernel⟩, par_ok (by decide +kernel), by decide +kernel⟩
def mX10_areKin : MD := (yX10_areKin, cX10_areKin, 4, (some FieldType.boolean), [], (3, 0, 0), cfX10)
theorem mX10_areKin_ok : MOk mX10_areKin 3 := ⟨lg_7 (i := 136) (by decide +kernel) rfl, lg_1 (i := 15) (by decide +kernel) rfl, ⟨by decide +kernel, by decide +kernel⟩, par_ok (by decide +kernel), by decide +kernel⟩
def mX10_answersNow : MD := (yX10_answersNow, cX10_answersNow, 8, (some FieldType.int), [], (4, 0, 0), cfX10)
theorem mX10_answersNow_ok : MOk mX10_answersNow 4 := ⟨lg_7 (i := 132) (by decide +kernel) rfl, lg_1 (i := 15) (by decide +kernel) rfl, ⟨by decide +kernel, by decide +kernel⟩, par_ok (by decide +kernel), by decide +kernel⟩
def mX10_answers : MD := (yX10_answers, cX10_answers, 5, (some FieldType.int), [], (5, 0, 0), cfX10)
theorem mX10_answers_ok : MOk mX10_answers 4 := ⟨lg_7 (i := 128) (by decide +kernel) rfl, lg_1 (i := 15) (by decide +kernel) rfl, ⟨by decide +kernel, by decide +kernel⟩, par_ok (by decide +kernel), by decide +kernel⟩
def mX7_winner : MD := (yX7_winner, cX7_winner, 4, (some FieldType.int), [], (0, 0, 0), cfX7)
theorem mX7_winner_ok : MOk mX7_winner 0 := ⟨lg_3 (i := 43) (by decide +kernel) rfl, lg_1 (i := 14) (by decide +kernel) rfl, ⟨by decide +kernel, by decide +kernel⟩, par_ok (by decide +kernel), by decide +kernel⟩
def mX9_mainAnswer : MD := (yX9_mainAnswer, cX9_mainAnswer, 5, (some FieldType.int), [], (7, 2, 12), cfX9)
theorem mX9_mainAnswer_ok : MOk mX9_mainAnswer 3 := ⟨lg_4 (i := 198) (by decide +kernel) rfl, lg_1 (i := 1) (by decide +kernel) rfl, ⟨by decide +kernel, by decide +kernel⟩, par_ok (by decide +kernel), by decide +kernel⟩
def mL_mainAnswer : MD := (yL_mainAnswer, cL_mainAnswer, 6, (some FieldType.int), [(0, 12, 15, 27), (0, 12, 19, 13)], (8, 2, 12), cfL)
theorem mL_mainAnswer_ok : MOk mL_mainAnswer 5 := ⟨lg_4 (i := 194) (by decide +kernel) rfl, lg_1 (i := 0) (by decide +kernel) rfl, ⟨by decide +kernel, by decide +kernel⟩, par_ok (by decide +kernel), by decide +kernel⟩
def mX10_mainAnswer : MD := (yX10_mainAnswer, cX10_mainAnswer, 8, (some FieldType.int), [], (5, 0, 0), cfX10)
theorem mX10_mainAnswer_ok : MOk mX10_mainAnswer 3 := ⟨lg_7 (i := 140) (by decide +kernel) rfl, lg_1 (i := 15) (by decide +kernel) rfl, ⟨by decide +kernel, by decide +kernel⟩, par_ok (by decide +kernel), by decide +kernel⟩
def mX9_distanceOf : MD := (yX9_distanceOf, cX9_distanceOf, 7, (some FieldType.double), [], (4, 0, 0), cfX9)
theorem mX9_distanceOf_ok : MOk mX9_distanceOf 2 := ⟨lg_2 (i := 189) (by decide +kernel) rfl, lg_1 (i := 1) (by decide +kernel) rfl, ⟨by decide +kernel, by decide +kernel⟩, par_ok (by decide +kernel), by decide +kernel⟩
def mX9_far : MD := (yX9_far, cX9_far, 5, (some FieldType.double), [], (7, 1, 6), cfX9)
theorem mX9_far_ok : MOk mX9_far 2 := ⟨lg_4 (i := 205) (by decide +kernel) rfl, lg_1 (i := 1) (by decide +kernel) rfl, ⟨by decide +kernel, by decide +kernel⟩, par_ok (by decide +kernel), by decide +kernel⟩
def mL_far : MD := (yL_far, cL_far, 5, (some FieldType.int), [(0, 9, 12, 27)], (8, 1, 6), cfL)
theorem mL_far_ok : MOk mL_far 4 := ⟨lg_4 (i := 201) (by decide +kernel) rfl, lg_1 (i := 0) (by decide +kernel) rfl, ⟨by decide +kernel, by decide +kernel⟩, par_ok (by decide +kernel), by decide +kernel⟩
def mX10_costs : MD := (yX10_costs, cX10_costs, 5, (some (FieldType.array FieldType.int)), [], (4, 1, 1200), cfX10)
theorem mX10_costs_ok : MOk mX10_costs 0 := ⟨lg_7 (i := 148) (by decide +kernel) rfl, lg_1 (i := 15) (by decide +kernel) rfl, ⟨by decide +kernel, by decide +kernel⟩, par_ok (by decide +kernel), by decide +kernel⟩
def mX10_shared : MD := (yX10_shared, cX10_shared, 5, (some FieldType.int), [], (2, 0, 0), cfX10)
theorem mX10_shared_ok : MOk mX10_shared 2 := ⟨lg_7 (i := 157) (by decide +kernel) rfl, lg_1 (i := 15) (by decide +kernel) rfl, ⟨by decide +kernel, by decide +kernel⟩, par_ok (by decide +kernel), by decide +kernel⟩
def mX10_farBy : MD := (yX10_farBy, cX10_farBy, 7, (some FieldType.double), [], (3, 0, 0), cfX10)
theorem mX10_farBy_ok : MOk mX10_farBy 3 := ⟨lg_7 (i := 152) (by decide +kernel) rfl, lg_1 (i := 15) (by decide +kernel) rfl, ⟨by decide +kernel, by decide +kernel⟩, par_ok (by decide +kernel), by decide +kernel⟩
def mX10_far : MD := (yX10_far, cX10_far, 3, (some FieldType.double), [], (5, 1, 1200), cfX10)
theorem mX10_far_ok : MOk mX10_far 2 := ⟨lg_7 (i := 144) (by decide +kernel) rfl, lg_1 (i := 15) (by decide +kernel) rfl, ⟨by decide +kernel, by decide +kernel⟩, par_ok (by decide +kernel), by decide +kernel⟩
def mX9_nearestTo : MD := (yX9_nearestTo, cX9_nearestTo, 8, (some FieldType.int), [], (5, 0, 0), cfX9)
theorem mX9_nearestTo_ok : MOk mX9_nearestTo 1 := ⟨lg_2 (i := 184) (by decide +kernel) rfl, lg_1 (i := 1) (by decide +kernel) rfl, ⟨by decide +kernel, by decide +kernel⟩, par_ok (by decide +kernel), by decide +kernel⟩
def mX9_nearest : MD := (yX9_nearest, cX9_nearest, 2, (some FieldType.int), [], (7, 1, 6), cfX9)
theorem mX9_nearest_ok : MOk mX9_nearest 1 := ⟨lg_4 (i := 212) (by decide +kernel) rfl, lg_1 (i := 1) (by decide +kernel) rfl, ⟨by decide +kernel, by decide +kernel⟩, par_ok (by decide +kernel), by decide +kernel⟩
def mL_nearest : MD := (yL_nearest, cL_nearest, 4, (some FieldType.int), [(0, 9, 12, 27)], (8, 1, 6), cfL)
theorem mL_nearest_ok : MOk mL_nearest 3 := ⟨lg_4 (i := 208) (by decide +kernel) rfl, lg_1 (i := 0) (by decide +kernel) rfl, ⟨by decide +kernel, by decide +kernel⟩, par_ok (by decide +kernel), by decide +kernel⟩
def mX10_nearestBy : MD := (yX10_nearestBy, cX10_nearestBy, 9, (some FieldType.int), [], (4, 0, 0), cfX10)
theorem mX10_nearestBy_ok : MOk mX10_nearestBy 2 := ⟨lg_7 (i := 165) (by decide +kernel) rfl, lg_1 (i := 15) (by decide +kernel) rfl, ⟨by decide +kernel, by decide +kernel⟩, par_ok (by decide +kernel), by decide +kernel⟩
def mX10_nearest : MD := (yX10_nearest, cX10_nearest, 2, (some FieldType.int), [], (6, 1, 1200), cfX10)
theorem mX10_nearest_ok : MOk mX10_nearest 1 := ⟨lg_7 (i := 161) (by decide +kernel) rfl, lg_1 (i := 15) (by decide +kernel) rfl, ⟨by decide +kernel, by decide +kernel⟩, par_ok (by decide +kernel), by decide +kernel⟩
def mX9_isWitness : MD := (yX9_isWitness, cX9_isWitness, 4, (some FieldType.boolean), [], (3, 0, 0), cfX9)
theorem mX9_isWitness_ok : MOk mX9_isWitness 3 := ⟨lg_2 (i := 229) (by decide +kernel) rfl, lg_1 (i := 1) (by decide +kernel) rfl, ⟨by decide +kernel, by decide +kernel⟩, par_ok (by decide +kernel), by decide +kernel⟩
def mX9_openVotes : MD := (yX9_openVotes, cX9_openVotes, 4, none, [], (2, 0, 0), cfX9)
theorem mX9_openVotes_ok : MOk mX9_openVotes 1 := ⟨lg_3 (i := 1) (by decide +kernel) rfl, lg_1 (i := 1) (by decide +kernel) rfl, ⟨by decide +kernel, by decide +kernel⟩, par_ok (by decide +kernel), by decide +kernel⟩
def mX9_castVotes : MD := (yX9_castVotes, cX9_castVotes, 4, none, [], (1, 0, 0), cfX9)
theorem mX9_castVotes_ok : MOk mX9_castVotes 1 := ⟨lg_3 (i := 27) (by decide +kernel) rfl, lg_1 (i := 1) (by decide +kernel) rfl, ⟨by decide +kernel, by decide +kernel⟩, par_ok (by decide +kernel), by decide +kernel⟩
def mX9_elected : MD := (yX9_elected, cX9_elected, 6, (some FieldType.long), [], (2, 0, 0), cfX9)
theorem mX9_elected_ok : MOk mX9_elected 1 := ⟨lg_3 (i := 39) (by decide +kernel) rfl, lg_1 (i := 1) (by decide +kernel) rfl, ⟨by decide +kernel, by decide +kernel⟩, par_ok (by decide +kernel), by decide +kernel⟩
def mX9_recall : MD := (yX9_recall, cX9_recall, 5, (some FieldType.long), [], (4, 0, 0), cfX9)
theorem mX9_recall_ok : MOk mX9_recall 2 := ⟨lg_2 (i := 225) (by decide +kernel) rfl, lg_1 (i := 1) (by decide +kernel) rfl, ⟨by decide +kernel, by decide +kernel⟩, par_ok (by decide +kernel), by decide +kernel⟩
def mX9_recalled : MD := (yX9_recalled, cX9_recalled, 3, (some FieldType.int), [], (7, 1, 6), cfX9)
theorem mX9_recalled_ok : MOk mX9_recalled 2 := ⟨lg_4 (i := 219) (by decide +kernel) rfl, lg_1 (i := 1) (by decide +kernel) rfl, ⟨by decide +kernel, by decide +kernel⟩, par_ok (by decide +kernel), by decide +kernel⟩
def mL_recalled : MD := (yL_recalled, cL_recalled, 5, (some FieldType.int), [(0, 10, 13, 27)], (8, 1, 6), cfL)
theorem mL_recalled_ok : MOk mL_recalled 4 := ⟨lg_4 (i := 215) (by decide +kernel) rfl, lg_1 (i := 0) (by decide +kernel) rfl, ⟨by decide +kernel, by decide +kernel⟩, par_ok (by decide +kernel), by decide +kernel⟩
def mX10_recalledNow : MD := (yX10_recalledNow, cX10_recalledNow, 11, (some FieldType.long), [], (4, 0, 0), cfX10)
theorem mX10_recalledNow_ok : MOk mX10_recalledNow 2 := ⟨lg_7 (i := 173) (by decide +kernel) rfl, lg_1 (i := 15) (by decide +kernel) rfl, ⟨by decide +kernel, by decide +kernel⟩, par_ok (by decide +kernel), by decide +kernel⟩
def mX10_recalled : MD := (yX10_recalled, cX10_recalled, 3, (some FieldType.int), [], (6, 0, 0), cfX10)
theorem mX10_recalled_ok : MOk mX10_recalled 2 := ⟨lg_7 (i := 169) (by decide +kernel) rfl, lg_1 (i := 15) (by decide +kernel) rfl, ⟨by decide +kernel, by decide +kernel⟩, par_ok (by decide +kernel), by decide +kernel⟩
def mX9_recalledAt : MD := (yX9_recalledAt, cX9_recalledAt, 4, (some FieldType.int), [], (8, 2, 12), cfX9)
theorem mX9_recalledAt_ok : MOk mX9_recalledAt 3 := ⟨lg_4 (i := 226) (by decide +kernel) rfl, lg_1 (i := 1) (by decide +kernel) rfl, ⟨by decide +kernel, by decide +kernel⟩, par_ok (by decide +kernel), by decide +kernel⟩
def mL_recalledAt : MD := (yL_recalledAt, cL_recalledAt, 6, (some FieldType.int), [(0, 12, 15, 27)], (9, 2, 12), cfL)
theorem mL_recalledAt_ok : MOk mL_recalledAt 5 := ⟨lg_4 (i := 222) (by decide +kernel) rfl, lg_1 (i := 0) (by decide +kernel) rfl, ⟨by decide +kernel, by decide +kernel⟩, par_ok (by decide +kernel), by decide +kernel⟩
def mX10_recalledAt : MD := (yX10_recalledAt, cX10_recalledAt, 6, (some FieldType.int), [], (6, 0, 0), cfX10)
theorem mX10_recalledAt_ok : MOk mX10_recalledAt 3 := ⟨lg_7 (i := 177) (by decide +kernel) rfl, lg_1 (i := 15) (by decide +kernel) rfl, ⟨by decide +kernel, by decide +kernel⟩, par_ok (by decide +kernel), by decide +kernel⟩
def mX9_countRecalledWell : MD := (yX9_countRecalledWell, cX9_countRecalledWell, 5, (some FieldType.int), [], (5, 0, 0), cfX9)
theorem mX9_countRecalledWell_ok : MOk mX9_countRecalledWell 1 := ⟨lg_2 (i := 221) (by decide +kernel) rfl, lg_1 (i := 1) (by decide +kernel) rfl, ⟨by decide +kernel, by decide +kernel⟩, par_ok (by decide +kernel), by decide +kernel⟩
def mX9_recalledWell : MD := (yX9_recalledWell, cX9_recalledWell, 2, (some FieldType.int), [], (7, 1, 6), cfX9)
theorem mX9_recalledWell_ok : MOk mX9_recalledWell 1 := ⟨lg_4 (i := 233) (by decide +kernel) rfl, lg_1 (i := 1) (by decide +kernel) rfl, ⟨by decide +kernel, by decide +kernel⟩, par_ok (by decide +kernel), by decide +kernel⟩
def mL_recalledWell : MD := (yL_recalledWell, cL_recalledWell, 4, (some FieldType.int), [(0, 9, 12, 27)], (8, 1, 6), cfL)
theorem mL_recalledWell_ok : MOk mL_recalledWell 3 := ⟨lg_4 (i := 229) (by decide +kernel) rfl, lg_1 (i := 0) (by decide +kernel) rfl, ⟨by decide +kernel, by decide +kernel⟩, par_ok (by decide +kernel), by decide +kernel⟩
def mX10_wellNow : MD := (yX10_wellNow, cX10_wellNow, 4, (some FieldType.int), [], (5, 0, 0), cfX10)
theorem mX10_wellNow_ok : MOk mX10_wellNow 1 := ⟨lg_7 (i := 185) (by decide +kernel) rfl, lg_1 (i := 15) (by decide +kernel) rfl, ⟨by decide +kernel, by decide +kernel⟩, par_ok (by decide +kernel), by decide +kernel⟩
def mX10_recalledWell : MD := (yX10_recalledWell, cX10_recalledWell, 2, (some FieldType.int), [], (6, 0, 0), cfX10)
theorem mX10_recalledWell_ok : MOk mX10_recalledWell 1 := ⟨lg_7 (i := 181) (by decide +kernel) rfl, lg_1 (i := 15) (by decide +kernel) rfl, ⟨by decide +kernel, by decide +kernel⟩, par_ok (by decide +kernel), by decide +kernel⟩
def mX9_isLaw : MD := (yX9_isLaw, cX9_isLaw, 3, (some FieldType.boolean), [], (4, 0, 0), cfX9)
theorem mX9_isLaw_ok : MOk mX9_isLaw 2 := ⟨lg_5 (i := 4) (by decide +kernel) rfl, lg_1 (i := 1) (by decide +kernel) rfl, ⟨by decide +kernel, by decide +kernel⟩, par_ok (by decide +kernel), by decide +kernel⟩
def mX2_lackingLaw : MD := (yX2_lackingLaw, cX2_lackingLaw, 4, (some (FieldType.object "TonguerootFamily$Language")), [], (7, 10, 130), cfX2)
theorem mX2_lackingLaw_ok : MOk mX2_lackingLaw 1 := ⟨lg_5 (i := 12) (by decide +kernel) rfl, lg_1 (i := 7) (by decide +kernel) rfl, ⟨by decide +kernel, by decide +kernel⟩, par_ok (by decide +kernel), by decide +kernel⟩
def mJx4a65c_rangeCheckForAdd_d00df : MD := (yJx4a65c_rangeCheckForAdd_d00df, cJx4a65c_rangeCheckForAdd_d00df, 2, none, [], (0, 0, 0), cfJx4a65c)
theorem mJx4a65c_rangeCheckForAdd_d00df_ok : MOk mJx4a65c_rangeCheckForAdd_d00df 1 := ⟨lg_5 (i := 26) (by decide +kernel) rfl, lg_1 (i := 6) (by decide +kernel) rfl, ⟨by decide +kernel, by decide +kernel⟩, par_ok (by decide +kernel), by decide +kernel⟩
def mJx4a65c_add_7a177 : MD := (yJx4a65c_add_7a177, cJx4a65c_add_7a177, 5, none, [], (5, 1, 15), cfJx4a65c)
theorem mJx4a65c_add_7a177_ok : MOk mJx4a65c_add_7a177 2 := ⟨lg_5 (i := 22) (by decide +kernel) rfl, lg_1 (i := 6) (by decide +kernel) rfl, ⟨by decide +kernel, by decide +kernel⟩, par_ok (by decide +kernel), by decide +kernel⟩
def mX2_swappingLaw : MD := (yX2_swappingLaw, cX2_swappingLaw, 3, (some (FieldType.object "TonguerootFamily$Language")), [], (8, 11, 145), cfX2)
theorem mX2_swappingLaw_ok : MOk mX2_swappingLaw 1 := ⟨lg_5 (i := 8) (by decide +kernel) rfl, lg_1 (i := 7) (by decide +kernel) rfl, ⟨by decide +kernel, by decide +kernel⟩, par_ok (by decide +kernel), by decide +kernel⟩
def mX1_replacing : MD := (yX1_replacing, cX1_replacing, 5, (some (FieldType.object "TonguerootFamily$History")), [], (7, 12, 155), cfX1)
theorem mX1_replacing_ok : MOk mX1_replacing 2 := ⟨lg_6 (i := 31) (by decide +kernel) rfl, lg_1 (i := 11) (by decide +kernel) rfl, ⟨by decide +kernel, by decide +kernel⟩, par_ok (by decide +kernel), by decide +kernel⟩
def mX4_tellOf : MD := (yX4_tellOf, cX4_tellOf, 3, none, [], (0, 0, 0), cfX4)
theorem mX4_tellOf_ok : MOk mX4_tellOf 1 := ⟨lg_6 (i := 43) (by decide +kernel) rfl, lg_1 (i := 12) (by decide +kernel) rfl, ⟨by decide +kernel, by decide +kernel⟩, par_ok (by decide +kernel), by decide +kernel⟩
def mX9_suppose : MD := (yX9_suppose, cX9_suppose, 3, none, [], (8, 12, 155), cfX9)
theorem mX9_suppose_ok : MOk mX9_suppose 2 := ⟨lg_6 (i := 27) (by decide +kernel) rfl, lg_1 (i := 1) (by decide +kernel) rfl, ⟨by decide +kernel, by decide +kernel⟩, par_ok (by decide +kernel), by decide +kernel⟩
def mX9_differs : MD := (yX9_differs, cX9_differs, 4, (some FieldType.boolean), [], (2, 0, 0), cfX9)
theorem mX9_differs_ok : MOk mX9_differs 3 := ⟨lg_3 (i := 63) (by decide +kernel) rfl, lg_1 (i := 1) (by decide +kernel) rfl, ⟨by decide +kernel, by decide +kernel⟩, par_ok (by decide +kernel), by decide +kernel⟩
def mX9_countDifferent : MD := (yX9_countDifferent, cX9_countDifferent, 4, (some FieldType.int), [], (3, 0, 0), cfX9)
theorem mX9_countDifferent_ok : MOk mX9_countDifferent 1 := ⟨lg_6 (i := 47) (by decide +kernel) rfl, lg_1 (i := 1) (by decide +kernel) rfl, ⟨by decide +kernel, by decide +kernel⟩, par_ok (by decide +kernel), by decide +kernel⟩
def mX9_swapped : MD := (yX9_swapped, cX9_swapped, 3, (some FieldType.int), [], (9, 25, 312), cfX9)
theorem mX9_swapped_ok : MOk mX9_swapped 2 := ⟨lg_5 (i := 0) (by decide +kernel) rfl, lg_1 (i := 1) (by decide +kernel) rfl, ⟨by decide +kernel, by decide +kernel⟩, par_ok (by decide +kernel), by decide +kernel⟩
def mL_swapped : MD := (yL_swapped, cL_swapped, 5, (some FieldType.int), [(0, 10, 13, 27), (0, 10, 17, 13)], (10, 25, 312), cfL)
theorem mL_swapped_ok : MOk mL_swapped 4 := ⟨lg_4 (i := 236) (by decide +kernel) rfl, lg_1 (i := 0) (by decide +kernel) rfl, ⟨by decide +kernel, by decide +kernel⟩, par_ok (by decide +kernel), by decide +kernel⟩
def mX10_told : MD := (yX10_told, cX10_told, 2, (some (FieldType.array FieldType.long)), [], (5, 1, 120), cfX10)
theorem mX10_told_ok : MOk mX10_told 0 := ⟨lg_7 (i := 193) (by decide +kernel) rfl, lg_1 (i := 15) (by decide +kernel) rfl, ⟨by decide +kernel, by decide +kernel⟩, par_ok (by decide +kernel), by decide +kernel⟩
def mX10_swap : MD := (yX10_swap, cX10_swap, 4, none, [], (0, 0, 0), cfX10)
theorem mX10_swap_ok : MOk mX10_swap 3 := ⟨lg_7 (i := 201) (by decide +kernel) rfl, lg_1 (i := 15) (by decide +kernel) rfl, ⟨by decide +kernel, by decide +kernel⟩, par_ok (by decide +kernel), by decide +kernel⟩
def mX10_swapLaws : MD := (yX10_swapLaws, cX10_swapLaws, 3, none, [], (1, 0, 0), cfX10)
theorem mX10_swapLaws_ok : MOk mX10_swapLaws 2 := ⟨lg_7 (i := 198) (by decide +kernel) rfl, lg_1 (i := 15) (by decide +kernel) rfl, ⟨by decide +kernel, by decide +kernel⟩, par_ok (by decide +kernel), by decide +kernel⟩
def mX10_unlike : MD := (yX10_unlike, cX10_unlike, 7, (some FieldType.int), [], (0, 0, 0), cfX10)
theorem mX10_unlike_ok : MOk mX10_unlike 3 := ⟨lg_7 (i := 205) (by decide +kernel) rfl, lg_1 (i := 15) (by decide +kernel) rfl, ⟨by decide +kernel, by decide +kernel⟩, par_ok (by decide +kernel), by decide +kernel⟩
def mX10_swapped : MD := (yX10_swapped, cX10_swapped, 5, (some FieldType.int), [], (6, 1, 120), cfX10)
theorem mX10_swapped_ok : MOk mX10_swapped 2 := ⟨lg_7 (i := 189) (by decide +kernel) rfl, lg_1 (i := 15) (by decide +kernel) rfl, ⟨by decide +kernel, by decide +kernel⟩, par_ok (by decide +kernel), by decide +kernel⟩
def mX9_without : MD := (yX9_without, cX9_without, 5, (some FieldType.int), [], (9, 23, 291), cfX9)
theorem mX9_without_ok : MOk mX9_without 2 := ⟨lg_6 (i := 54) (by decide +kernel) rfl, lg_1 (i := 1) (by decide +kernel) rfl, ⟨by decide +kernel, by decide +kernel⟩, par_ok (by decide +kernel), by decide +kernel⟩
def mL_without : MD := (yL_without, cL_without, 5, (some FieldType.int), [(0, 10, 13, 27)], (10, 23, 291), cfL)
theorem mL_without_ok : MOk mL_without 4 := ⟨lg_6 (i := 50) (by decide +kernel) rfl, lg_1 (i := 0) (by decide +kernel) rfl, ⟨by decide +kernel, by decide +kernel⟩, par_ok (by decide +kernel), by decide +kernel⟩
def mX10_without : MD := (yX10_without, cX10_without, 7, (some FieldType.int), [], (6, 1, 120), cfX10)
theorem mX10_without_ok : MOk mX10_without 2 := ⟨lg_7 (i := 209) (by decide +kernel) rfl, lg_1 (i := 15) (by decide +kernel) rfl, ⟨by decide +kernel, by decide +kernel⟩, par_ok (by decide +kernel), by decide +kernel⟩
def mX1_lackingLoan : MD := (yX1_lackingLoan, cX1_lackingLoan, 4, (some (FieldType.object "TonguerootFamily$History")), [], (7, 14, 185), cfX1)
theorem mX1_lackingLoan_ok : MOk mX1_lackingLoan 1 := ⟨lg_6 (i := 66) (by decide +kernel) rfl, lg_1 (i := 11) (by decide +kernel) rfl, ⟨by decide +kernel, by decide +kernel⟩, par_ok (by decide +kernel), by decide +kernel⟩
def mX9_withoutLoan : MD := (yX9_withoutLoan, cX9_withoutLoan, 5, (some FieldType.int), [], (8, 15, 191), cfX9)
theorem mX9_withoutLoan_ok : MOk mX9_withoutLoan 1 := ⟨lg_6 (i := 62) (by decide +kernel) rfl, lg_1 (i := 1) (by decide +kernel) rfl, ⟨by decide +kernel, by decide +kernel⟩, par_ok (by decide +kernel), by decide +kernel⟩
def mL_withoutLoan : MD := (yL_withoutLoan, cL_withoutLoan, 4, (some FieldType.int), [(0, 9, 12, 27)], (9, 15, 191), cfL)
theorem mL_withoutLoan_ok : MOk mL_withoutLoan 3 := ⟨lg_6 (i := 58) (by decide +kernel) rfl, lg_1 (i := 0) (by decide +kernel) rfl, ⟨by decide +kernel, by decide +kernel⟩, par_ok (by decide +kernel), by decide +kernel⟩
def mX10_withoutLoan : MD := (yX10_withoutLoan, cX10_withoutLoan, 3, (some FieldType.int), [], (6, 1, 120), cfX10)
theorem mX10_withoutLoan_ok : MOk mX10_withoutLoan 1 := ⟨lg_7 (i := 213) (by decide +kernel) rfl, lg_1 (i := 15) (by decide +kernel) rfl, ⟨by decide +kernel, by decide +kernel⟩, par_ok (by decide +kernel), by decide +kernel⟩
def mX9_looksLent : MD := (yX9_looksLent, cX9_looksLent, 3, (some FieldType.boolean), [], (7, 1, 6), cfX9)
theorem mX9_looksLent_ok : MOk mX9_looksLent 2 := ⟨lg_6 (i := 74) (by decide +kernel) rfl, lg_1 (i := 1) (by decide +kernel) rfl, ⟨by decide +kernel, by decide +kernel⟩, par_ok (by decide +kernel), by decide +kernel⟩
def mL_looksLent : MD := (yL_looksLent, cL_looksLent, 5, (some FieldType.int), [(0, 17, 20, 27)], (8, 1, 6), cfL)
theorem mL_looksLent_ok : MOk mL_looksLent 4 := ⟨lg_6 (i := 70) (by decide +kernel) rfl, lg_1 (i := 0) (by decide +kernel) rfl, ⟨by decide +kernel, by decide +kernel⟩, par_ok (by decide +kernel), by decide +kernel⟩
def mX10_unlent : MD := (yX10_unlent, cX10_unlent, 3, (some (FieldType.array FieldType.long)), [], (6, 1, 120), cfX10)
theorem mX10_unlent_ok : MOk mX10_unlent 0 := ⟨lg_7 (i := 221) (by decide +kernel) rfl, lg_1 (i := 15) (by decide +kernel) rfl, ⟨by decide +kernel, by decide +kernel⟩, par_ok (by decide +kernel), by decide +kernel⟩
def mX10_looksLent : MD := (yX10_looksLent, cX10_looksLent, 5, (some FieldType.boolean), [], (7, 1, 120), cfX10)
theorem mX10_looksLent_ok : MOk mX10_looksLent 2 := ⟨lg_7 (i := 217) (by decide +kernel) rfl, lg_1 (i := 15) (by decide +kernel) rfl, ⟨by decide +kernel, by decide +kernel⟩, par_ok (by decide +kernel), by decide +kernel⟩
def mX9_mixed : MD := (yX9_mixed, cX9_mixed, 4, (some FieldType.long), [], (0, 0, 0), cfX9)
theorem mX9_mixed_ok : MOk mX9_mixed 2 := ⟨lg_2 (i := 155) (by decide +kernel) rfl, lg_1 (i := 1) (by decide +kernel) rfl, ⟨by decide +kernel, by decide +kernel⟩, par_ok (by decide +kernel), by decide +kernel⟩
def mX9_mixSounds : MD := (yX9_mixSounds, cX9_mixSounds, 7, (some FieldType.long), [], (1, 0, 0), cfX9)
theorem mX9_mixSounds_ok : MOk mX9_mixSounds 2 := ⟨lg_3 (i := 54) (by decide +kernel) rfl, lg_1 (i := 1) (by decide +kernel) rfl, ⟨by decide +kernel, by decide +kernel⟩, par_ok (by decide +kernel), by decide +kernel⟩
def mX9_mixWord : MD := (yX9_mixWord, cX9_mixWord, 7, (some FieldType.long), [], (5, 0, 0), cfX9)
theorem mX9_mixWord_ok : MOk mX9_mixWord 3 := ⟨lg_3 (i := 51) (by decide +kernel) rfl, lg_1 (i := 1) (by decide +kernel) rfl, ⟨by decide +kernel, by decide +kernel⟩, par_ok (by decide +kernel), by decide +kernel⟩
def mX9_mixCosts : MD := (yX9_mixCosts, cX9_mixCosts, 9, (some FieldType.long), [], (4, 0, 0), cfX9)
theorem mX9_mixCosts_ok : MOk mX9_mixCosts 1 := ⟨lg_3 (i := 67) (by decide +kernel) rfl, lg_1 (i := 1) (by decide +kernel) rfl, ⟨by decide +kernel, by decide +kernel⟩, par_ok (by decide +kernel), by decide +kernel⟩
def mX9_digest : MD := (yX9_digest, cX9_digest, 5, (some FieldType.long), [], (7, 0, 0), cfX9)
theorem mX9_digest_ok : MOk mX9_digest 0 := ⟨lg_2 (i := 71) (by decide +kernel) rfl, lg_1 (i := 1) (by decide +kernel) rfl, ⟨by decide +kernel, by decide +kernel⟩, par_ok (by decide +kernel), by decide +kernel⟩
def mX10_digest : MD := (yX10_digest, cX10_digest, 12, (some FieldType.long), [], (7, 2, 1320), cfX10)
theorem mX10_digest_ok : MOk mX10_digest 0 := ⟨lg_7 (i := 225) (by decide +kernel) rfl, lg_1 (i := 15) (by decide +kernel) rfl, ⟨by decide +kernel, by decide +kernel⟩, par_ok (by decide +kernel), by decide +kernel⟩
theorem lkX6_3 : Cond.methodLink RX6 3 Lib.objectInit ∈ lw_g := lg_1 (i := 47) (by decide +kernel) rfl
theorem lkX6_20 : Cond.methodLink RX6 20 yJ7_fill_53178 ∈ lw_g := lg_1 (i := 50) (by decide +kernel) rfl
theorem lkJxa1e45_1 : Cond.methodLink RJxa1e45 1 Lib.objectInit ∈ lw_g := lg_1 (i := 76) (by decide +kernel) rfl
theorem lkJxc12de_1 : Cond.methodLink RJxc12de 1 yJxa1e45_init_da8c8 ∈ lw_g := lg_1 (i := 73) (by decide +kernel) rfl
theorem lkJx4a65c_1 : Cond.methodLink RJx4a65c 1 yJxc12de_init_da8c8 ∈ lw_g := lg_1 (i := 70) (by decide +kernel) rfl
theorem lkX2_1 : Cond.methodLink RX2 1 Lib.objectInit ∈ lw_g := lg_1 (i := 97) (by decide +kernel) rfl
theorem lkX2_9 : Cond.methodLink RX2 9 yJx4a65c_init_da8c8 ∈ lw_g := lg_1 (i := 99) (by decide +kernel) rfl
theorem lkJ8_194 : Cond.methodLink RJ8 194 Lib.Math.max.name ∈ lw_g := lg_1 (i := 130) (by decide +kernel) rfl
theorem lkJ7_304 : Cond.methodLink RJ7 304 Lib.Math.min.name ∈ lw_g := lg_1 (i := 166) (by decide +kernel) rfl
theorem lkJ7_150 : Cond.methodLink RJ7 150 arraycopyName ∈ lw_g := lg_1 (i := 169) (by decide +kernel) rfl
theorem lkJ7_86 : Cond.methodLink RJ7 86 gcN ∈ lw_g := lg_1 (i := 140) (by decide +kernel) rfl
theorem lkJ7_300 : Cond.methodLink RJ7 300 yJ7_copyOf_6403c ∈ lw_g := lg_1 (i := 160) (by decide +kernel) rfl
theorem lkJx4a65c_73 : Cond.methodLink RJx4a65c 73 yJ8_newLength_cabcc ∈ lw_g := lg_1 (i := 127) (by decide +kernel) rfl
theorem lkJx4a65c_66 : Cond.methodLink RJx4a65c 66 yJ7_copyOf_1904c ∈ lw_g := lg_1 (i := 137) (by decide +kernel) rfl
theorem lkJx4a65c_79 : Cond.methodLink RJx4a65c 79 Lib.Math.max.name ∈ lw_g := lg_1 (i := 172) (by decide +kernel) rfl
theorem lkJx4a65c_69 : Cond.methodLink RJx4a65c 69 yJx4a65c_grow_92f84 ∈ lw_g := lg_1 (i := 123) (by decide +kernel) rfl
theorem lkJx4a65c_129 : Cond.methodLink RJx4a65c 129 yJx4a65c_grow_d5877 ∈ lw_g := lg_1 (i := 119) (by decide +kernel) rfl
theorem lkJx4a65c_131 : Cond.methodLink RJx4a65c 131 yJx4a65c_add_72be8 ∈ lw_g := lg_1 (i := 115) (by decide +kernel) rfl
theorem lkX9_32 : Cond.methodLink RX9 32 yJx4a65c_init_da8c8 ∈ lw_g := lg_1 (i := 67) (by decide +kernel) rfl
theorem lkX9_84 : Cond.methodLink RX9 84 yX2_init ∈ lw_g := lg_1 (i := 94) (by decide +kernel) rfl
theorem lkX9_87 : Cond.methodLink RX9 87 yJx4a65c_add_9ea2d ∈ lw_g := lg_1 (i := 111) (by decide +kernel) rfl
theorem lkX1_1 : Cond.methodLink RX1 1 Lib.objectInit ∈ lw_g := lg_1 (i := 179) (by decide +kernel) rfl
theorem lkX4_3 : Cond.methodLink RX4 3 Lib.objectInit ∈ lw_g := lg_1 (i := 196) (by decide +kernel) rfl
theorem lkX0_3 : Cond.methodLink RX0 3 Lib.objectInit ∈ lw_g := lg_1 (i := 225) (by decide +kernel) rfl
theorem lkX7_3 : Cond.methodLink RX7 3 Lib.objectInit ∈ lw_g := lg_2 (i := 18) (by decide +kernel) rfl
theorem lkX9_1 : Cond.methodLink RX9 1 Lib.objectInit ∈ lw_g := lg_1 (i := 39) (by decide +kernel) rfl
theorem lkX9_9 : Cond.methodLink RX9 9 yX6_init ∈ lw_g := lg_1 (i := 44) (by decide +kernel) rfl
theorem lkX9_24 : Cond.methodLink RX9 24 yX9_motherAlone ∈ lw_g := lg_1 (i := 62) (by decide +kernel) rfl
theorem lkX9_33 : Cond.methodLink RX9 33 yX1_init ∈ lw_g := lg_1 (i := 176) (by decide +kernel) rfl
theorem lkX9_42 : Cond.methodLink RX9 42 yX4_init ∈ lw_g := lg_1 (i := 193) (by decide +kernel) rfl
theorem lkX9_57 : Cond.methodLink RX9 57 yX0_init ∈ lw_g := lg_1 (i := 222) (by decide +kernel) rfl
theorem lkX9_70 : Cond.methodLinkNest RX9 70 yX7_init "TonguerootFamily" ∈ lw_n := ln_2 (i := 15) (by decide +kernel) rfl
theorem lkX9_76 : Cond.methodLink RX9 76 yJ7_fill_53178 ∈ lw_g := lg_2 (i := 24) (by decide +kernel) rfl
theorem lkX10_1 : Cond.methodLink RX10 1 Lib.objectInit ∈ lw_g := lg_6 (i := 80) (by decide +kernel) rfl
theorem lkX6_26 : Cond.methodLink RX6 26 yJ6_bitCount_0f7a4 ∈ lw_g := lg_3 (i := 155) (by decide +kernel) rfl
theorem lkX9_318 : Cond.methodLink RX9 318 yX4_forget ∈ lw_g := lg_3 (i := 169) (by decide +kernel) rfl
theorem lkX9_119 : Cond.methodLink RX9 119 yX9_forgetMeaning ∈ lw_g := lg_3 (i := 165) (by decide +kernel) rfl
theorem lkX9_91 : Cond.methodLink RX9 91 yX9_isSound ∈ lw_g := lg_3 (i := 44) (by decide +kernel) rfl
theorem lkX9_95 : Cond.methodLink RX9 95 yX9_refuseUnless ∈ lw_g := lg_3 (i := 76) (by decide +kernel) rfl
theorem lkX9_99 : Cond.methodLink RX9 99 yX6_featuresOf ∈ lw_g := lg_3 (i := 147) (by decide +kernel) rfl
theorem lkX9_103 : Cond.methodLink RX9 103 yX6_giveFeatures ∈ lw_g := lg_3 (i := 151) (by decide +kernel) rfl
theorem lkX9_107 : Cond.methodLink RX9 107 yX9_forgetAll ∈ lw_g := lg_3 (i := 161) (by decide +kernel) rfl
theorem lkL_7 : Cond.methodLink RL 7 yX9_setSound ∈ lw_g := lg_3 (i := 72) (by decide +kernel) rfl
theorem lkX10_88 : Cond.methodLink RX10 88 yX10_isIn ∈ lw_g := lg_6 (i := 174) (by decide +kernel) rfl
theorem lkX10_136 : Cond.methodLink RX10 136 yX10_isSound ∈ lw_g := lg_6 (i := 171) (by decide +kernel) rfl
theorem lkX10_140 : Cond.methodLink RX10 140 yX10_no ∈ lw_g := lg_6 (i := 177) (by decide +kernel) rfl
theorem lkX9_110 : Cond.methodLink RX9 110 yX9_isMeaning ∈ lw_g := lg_3 (i := 180) (by decide +kernel) rfl
theorem lkX9_113 : Cond.methodLink RX9 113 yX8_size ∈ lw_g := lg_2 (i := 179) (by decide +kernel) rfl
theorem lkL_15 : Cond.methodLink RL 15 yX9_word ∈ lw_g := lg_3 (i := 176) (by decide +kernel) rfl
theorem lkX10_144 : Cond.methodLink RX10 144 yX10_isMeaning ∈ lw_g := lg_6 (i := 185) (by decide +kernel) rfl
theorem lkX10_94 : Cond.methodLink RX10 94 yX10_length ∈ lw_g := lg_6 (i := 188) (by decide +kernel) rfl
theorem lkX8_13 : Cond.methodLink RX8 13 yX8_size ∈ lw_g := lg_2 (i := 151) (by decide +kernel) rfl
theorem lkX9_122 : Cond.methodLink RX9 122 yX9_requireState ∈ lw_g := lg_3 (i := 191) (by decide +kernel) rfl
theorem lkX9_125 : Cond.methodLink RX9 125 yX8_plus ∈ lw_g := lg_3 (i := 47) (by decide +kernel) rfl
theorem lkL_19 : Cond.methodLink RL 19 yX9_spell ∈ lw_g := lg_3 (i := 187) (by decide +kernel) rfl
theorem lkX9_139 : Cond.methodLink RX9 139 yJx4a65c_size_8abf5 ∈ lw_g := lg_2 (i := 60) (by decide +kernel) rfl
theorem lkX9_129 : Cond.methodLink RX9 129 yX9_isLanguage ∈ lw_g := lg_3 (i := 218) (by decide +kernel) rfl
theorem lkX9_132 : Cond.methodLink RX9 132 yX9_requireThere ∈ lw_g := lg_3 (i := 222) (by decide +kernel) rfl
theorem lkL_24 : Cond.methodLink RL 24 yX9_language ∈ lw_g := lg_3 (i := 214) (by decide +kernel) rfl
theorem lkX10_147 : Cond.methodLink RX10 147 yX10_isLanguage ∈ lw_g := lg_6 (i := 200) (by decide +kernel) rfl
theorem lkJ15_105 : Cond.methodLink RJ15 105 yJ3_checkIndex_8e157 ∈ lw_g := lg_2 (i := 99) (by decide +kernel) rfl
theorem lkJx4a65c_118 : Cond.methodLink RJx4a65c 118 yJ15_checkIndex_7cf53 ∈ lw_g := lg_2 (i := 96) (by decide +kernel) rfl
theorem lkJx4a65c_123 : Cond.methodLink RJx4a65c 123 yJx4a65c_elementData_915e3 ∈ lw_g := lg_2 (i := 102) (by decide +kernel) rfl
theorem lkX9_169 : Cond.methodLink RX9 169 yJx4a65c_get_915e3 ∈ lw_g := lg_2 (i := 161) (by decide +kernel) rfl
theorem lkX3_3 : Cond.methodLink RX3 3 Lib.objectInit ∈ lw_g := lg_4 (i := 17) (by decide +kernel) rfl
theorem lkX9_143 : Cond.methodLink RX9 143 yX9_isNeighbourSet ∈ lw_g := lg_4 (i := 9) (by decide +kernel) rfl
theorem lkX9_146 : Cond.methodLink RX9 146 yX9_lawsOf ∈ lw_g := lg_2 (i := 157) (by decide +kernel) rfl
theorem lkX9_152 : Cond.methodLink RX9 152 yX3_init ∈ lw_g := lg_4 (i := 14) (by decide +kernel) rfl
theorem lkL_29 : Cond.methodLink RL 29 yX9_law ∈ lw_g := lg_4 (i := 4) (by decide +kernel) rfl
theorem lkJx4a65c_112 : Cond.methodLink RJx4a65c 112 arraycopyName ∈ lw_g := lg_4 (i := 50) (by decide +kernel) rfl
theorem lkJx4a65c_144 : Cond.methodLink RJx4a65c 144 yJx4a65c_fastRemove_b59b0 ∈ lw_g := lg_4 (i := 46) (by decide +kernel) rfl
theorem lkX9_155 : Cond.methodLink RX9 155 yJx4a65c_isEmpty_aae02 ∈ lw_g := lg_4 (i := 38) (by decide +kernel) rfl
theorem lkX9_159 : Cond.methodLink RX9 159 yJx4a65c_remove_915e3 ∈ lw_g := lg_4 (i := 42) (by decide +kernel) rfl
theorem lkL_33 : Cond.methodLink RL 33 yX9_unlaw ∈ lw_g := lg_4 (i := 34) (by decide +kernel) rfl
theorem lkX5_1 : Cond.methodLink RX5 1 Lib.objectInit ∈ lw_g := lg_4 (i := 63) (by decide +kernel) rfl
theorem lkX9_168 : Cond.methodLink RX9 168 yX5_init ∈ lw_g := lg_4 (i := 60) (by decide +kernel) rfl
theorem lkL_36 : Cond.methodLink RL 36 yX9_loan ∈ lw_g := lg_4 (i := 54) (by decide +kernel) rfl
theorem lkX10_152 : Cond.methodLink RX10 152 yX10_ok ∈ lw_g := lg_6 (i := 222) (by decide +kernel) rfl
theorem lkL_40 : Cond.methodLink RL 40 yX9_laws ∈ lw_g := lg_4 (i := 82) (by decide +kernel) rfl
theorem lkL_43 : Cond.methodLink RL 43 yX9_common ∈ lw_g := lg_4 (i := 89) (by decide +kernel) rfl
theorem lkX4_60 : Cond.methodLink RX4 60 yX4_cell ∈ lw_g := lg_2 (i := 89) (by decide +kernel) rfl
theorem lkX4_64 : Cond.methodLink RX4 64 yJx4a65c_get_915e3 ∈ lw_g := lg_2 (i := 92) (by decide +kernel) rfl
theorem lkX4_47 : Cond.methodLink RX4 47 yJx4a65c_size_8abf5 ∈ lw_g := lg_2 (i := 80) (by decide +kernel) rfl
theorem lkX4_92 : Cond.methodLink RX4 92 yX5_comesTo ∈ lw_g := lg_2 (i := 112) (by decide +kernel) rfl
theorem lkX4_99 : Cond.methodLink RX4 99 yX4_hasWord ∈ lw_g := lg_2 (i := 116) (by decide +kernel) rfl
theorem lkX3_30 : Cond.methodLink RX3 30 yX8_at ∈ lw_g := lg_2 (i := 128) (by decide +kernel) rfl
theorem lkX3_26 : Cond.methodLink RX3 26 yX8_size ∈ lw_g := lg_2 (i := 125) (by decide +kernel) rfl
theorem lkX3_46 : Cond.methodLink RX3 46 yX3_has ∈ lw_g := lg_2 (i := 136) (by decide +kernel) rfl
theorem lkX3_50 : Cond.methodLink RX3 50 yX6_turned ∈ lw_g := lg_2 (i := 143) (by decide +kernel) rfl
theorem lkX3_34 : Cond.methodLink RX3 34 yX3_holdsAt ∈ lw_g := lg_2 (i := 131) (by decide +kernel) rfl
theorem lkX3_38 : Cond.methodLink RX3 38 yX3_heirOf ∈ lw_g := lg_2 (i := 139) (by decide +kernel) rfl
theorem lkX3_42 : Cond.methodLink RX3 42 yX8_plus ∈ lw_g := lg_2 (i := 147) (by decide +kernel) rfl
theorem lkX4_57 : Cond.methodLink RX4 57 yX4_inherit ∈ lw_g := lg_2 (i := 85) (by decide +kernel) rfl
theorem lkX4_73 : Cond.methodLink RX4 73 yX4_borrow ∈ lw_g := lg_2 (i := 107) (by decide +kernel) rfl
theorem lkX4_79 : Cond.methodLink RX4 79 yX3_goOver ∈ lw_g := lg_2 (i := 121) (by decide +kernel) rfl
theorem lkX4_53 : Cond.methodLink RX4 53 yX4_tellWord ∈ lw_g := lg_2 (i := 81) (by decide +kernel) rfl
theorem lkX9_175 : Cond.methodLink RX9 175 yX4_freshen ∈ lw_g := lg_4 (i := 100) (by decide +kernel) rfl
theorem lkX9_178 : Cond.methodLink RX9 178 yX4_wordOf ∈ lw_g := lg_2 (i := 171) (by decide +kernel) rfl
theorem lkL_46 : Cond.methodLink RL 46 yX9_length ∈ lw_g := lg_4 (i := 96) (by decide +kernel) rfl
theorem lkX10_98 : Cond.methodLink RX10 98 yX10_at ∈ lw_g := lg_7 (i := 22) (by decide +kernel) rfl
theorem lkX10_102 : Cond.methodLink RX10 102 yX10_isBeside ∈ lw_g := lg_7 (i := 25) (by decide +kernel) rfl
theorem lkX10_106 : Cond.methodLink RX10 106 yX10_turned ∈ lw_g := lg_7 (i := 28) (by decide +kernel) rfl
theorem lkX10_114 : Cond.methodLink RX10 114 yX10_borrow ∈ lw_g := lg_7 (i := 14) (by decide +kernel) rfl
theorem lkX10_118 : Cond.methodLink RX10 118 yX10_changed ∈ lw_g := lg_7 (i := 18) (by decide +kernel) rfl
theorem lkX10_110 : Cond.methodLink RX10 110 yX10_grow ∈ lw_g := lg_7 (i := 10) (by decide +kernel) rfl
theorem lkX10_155 : Cond.methodLink RX10 155 yX10_solve ∈ lw_g := lg_7 (i := 6) (by decide +kernel) rfl
theorem lkX10_158 : Cond.methodLink RX10 158 yX10_isAsked ∈ lw_g := lg_7 (i := 2) (by decide +kernel) rfl
theorem lkX10_125 : Cond.methodLink RX10 125 yX10_wordOf ∈ lw_g := lg_7 (i := 32) (by decide +kernel) rfl
theorem lkX9_315 : Cond.methodLink RX9 315 yX8_at ∈ lw_g := lg_2 (i := 180) (by decide +kernel) rfl
theorem lkX9_182 : Cond.methodLink RX9 182 yX9_soundIn ∈ lw_g := lg_4 (i := 108) (by decide +kernel) rfl
theorem lkL_49 : Cond.methodLink RL 49 yX9_soundAt ∈ lw_g := lg_4 (i := 104) (by decide +kernel) rfl
theorem lkX9_186 : Cond.methodLink RX9 186 yX4_originOf ∈ lw_g := lg_3 (i := 55) (by decide +kernel) rfl
theorem lkL_53 : Cond.methodLink RL 53 yX9_origin ∈ lw_g := lg_4 (i := 114) (by decide +kernel) rfl
theorem lkX10_129 : Cond.methodLink RX10 129 yX10_hasWord ∈ lw_g := lg_7 (i := 48) (by decide +kernel) rfl
theorem lkX10_133 : Cond.methodLink RX10 133 yX10_originOf ∈ lw_g := lg_7 (i := 44) (by decide +kernel) rfl
theorem lkX9_190 : Cond.methodLink RX9 190 yX4_changersOf ∈ lw_g := lg_3 (i := 56) (by decide +kernel) rfl
theorem lkL_56 : Cond.methodLink RL 56 yX9_changedBy ∈ lw_g := lg_4 (i := 121) (by decide +kernel) rfl
theorem lkX10_161 : Cond.methodLink RX10 161 yX10_changesOf ∈ lw_g := lg_7 (i := 56) (by decide +kernel) rfl
theorem lkX4_37 : Cond.methodLink RX4 37 yX4_freshen ∈ lw_g := lg_2 (i := 76) (by decide +kernel) rfl
theorem lkX9_321 : Cond.methodLink RX9 321 yX4_hasWord ∈ lw_g := lg_2 (i := 166) (by decide +kernel) rfl
theorem lkX9_193 : Cond.methodLink RX9 193 yX4_freshenAll ∈ lw_g := lg_2 (i := 72) (by decide +kernel) rfl
theorem lkX9_196 : Cond.methodLink RX9 196 yX9_countWords ∈ lw_g := lg_2 (i := 162) (by decide +kernel) rfl
theorem lkL_59 : Cond.methodLink RL 59 yX9_wealth ∈ lw_g := lg_4 (i := 128) (by decide +kernel) rfl
theorem lkX10_164 : Cond.methodLink RX10 164 yX10_wealthOf ∈ lw_g := lg_7 (i := 64) (by decide +kernel) rfl
theorem lkX9_199 : Cond.methodLink RX9 199 yX9_countAlike ∈ lw_g := lg_2 (i := 167) (by decide +kernel) rfl
theorem lkL_62 : Cond.methodLink RL 62 yX9_alike ∈ lw_g := lg_4 (i := 135) (by decide +kernel) rfl
theorem lkX10_167 : Cond.methodLink RX10 167 yX10_alikeIn ∈ lw_g := lg_7 (i := 72) (by decide +kernel) rfl
theorem lkX9_202 : Cond.methodLink RX9 202 yX9_collectSounds ∈ lw_g := lg_2 (i := 175) (by decide +kernel) rfl
theorem lkL_65 : Cond.methodLink RL 65 yX9_soundsOf ∈ lw_g := lg_4 (i := 142) (by decide +kernel) rfl
theorem lkX10_170 : Cond.methodLink RX10 170 yX10_soundsIn ∈ lw_g := lg_7 (i := 80) (by decide +kernel) rfl
theorem lkX0_59 : Cond.methodLink RX0 59 yX8_size ∈ lw_g := lg_2 (i := 207) (by decide +kernel) rfl
theorem lkX0_65 : Cond.methodLink RX0 65 Lib.Math.min.name ∈ lw_g := lg_2 (i := 208) (by decide +kernel) rfl
theorem lkX0_70 : Cond.methodLink RX0 70 yX8_at ∈ lw_g := lg_2 (i := 209) (by decide +kernel) rfl
theorem lkX0_74 : Cond.methodLink RX0 74 yX0_pairFrom ∈ lw_g := lg_2 (i := 214) (by decide +kernel) rfl
theorem lkX0_33 : Cond.methodLink RX0 33 yX0_spellOut ∈ lw_g := lg_2 (i := 204) (by decide +kernel) rfl
theorem lkX0_44 : Cond.methodLink RX0 44 yX0_leastFrom ∈ lw_g := lg_2 (i := 210) (by decide +kernel) rfl
theorem lkX9_324 : Cond.methodLink RX9 324 Lib.Math.min.name ∈ lw_g := lg_2 (i := 194) (by decide +kernel) rfl
theorem lkX9_329 : Cond.methodLink RX9 329 Lib.Math.max.name ∈ lw_g := lg_2 (i := 195) (by decide +kernel) rfl
theorem lkX9_332 : Cond.methodLink RX9 332 yX4_bothHave ∈ lw_g := lg_2 (i := 196) (by decide +kernel) rfl
theorem lkX9_336 : Cond.methodLink RX9 336 yX0_weigh ∈ lw_g := lg_2 (i := 200) (by decide +kernel) rfl
theorem lkX9_205 : Cond.methodLink RX9 205 yX9_leastCost ∈ lw_g := lg_2 (i := 190) (by decide +kernel) rfl
theorem lkL_68 : Cond.methodLink RL 68 yX9_cost ∈ lw_g := lg_4 (i := 149) (by decide +kernel) rfl
theorem lkX10_173 : Cond.methodLink RX10 173 yX10_spread ∈ lw_g := lg_7 (i := 100) (by decide +kernel) rfl
theorem lkX10_180 : Cond.methodLink RX10 180 yX10_costOf ∈ lw_g := lg_7 (i := 104) (by decide +kernel) rfl
theorem lkX10_183 : Cond.methodLink RX10 183 yX10_restAt ∈ lw_g := lg_7 (i := 108) (by decide +kernel) rfl
theorem lkX10_186 : Cond.methodLink RX10 186 Lib.Math.min.name ∈ lw_g := lg_7 (i := 112) (by decide +kernel) rfl
theorem lkX10_194 : Cond.methodLink RX10 194 yX10_align ∈ lw_g := lg_7 (i := 96) (by decide +kernel) rfl
theorem lkX10_198 : Cond.methodLink RX10 198 yX10_areAsked ∈ lw_g := lg_7 (i := 88) (by decide +kernel) rfl
theorem lkX10_201 : Cond.methodLink RX10 201 yX10_costNow ∈ lw_g := lg_7 (i := 92) (by decide +kernel) rfl
theorem lkX0_48 : Cond.methodLink RX0 48 yX0_weigh ∈ lw_g := lg_3 (i := 15) (by decide +kernel) rfl
theorem lkX0_52 : Cond.methodLink RX0 52 yX0_takesPair ∈ lw_g := lg_3 (i := 16) (by decide +kernel) rfl
theorem lkX0_56 : Cond.methodLink RX0 56 yX0_takesFirstAlone ∈ lw_g := lg_3 (i := 20) (by decide +kernel) rfl
theorem lkX9_340 : Cond.methodLink RX9 340 yX0_align ∈ lw_g := lg_3 (i := 11) (by decide +kernel) rfl
theorem lkX9_209 : Cond.methodLink RX9 209 yX9_layOut ∈ lw_g := lg_4 (i := 160) (by decide +kernel) rfl
theorem lkL_71 : Cond.methodLink RL 71 yX9_columns ∈ lw_g := lg_4 (i := 156) (by decide +kernel) rfl
theorem lkX10_205 : Cond.methodLink RX10 205 yX10_columnsNow ∈ lw_g := lg_7 (i := 117) (by decide +kernel) rfl
theorem lkX9_212 : Cond.methodLink RX9 212 yX0_upperAt ∈ lw_g := lg_3 (i := 28) (by decide +kernel) rfl
theorem lkX9_215 : Cond.methodLink RX9 215 yX0_lowerAt ∈ lw_g := lg_3 (i := 32) (by decide +kernel) rfl
theorem lkL_74 : Cond.methodLink RL 74 yX9_columnAt ∈ lw_g := lg_4 (i := 167) (by decide +kernel) rfl
theorem lkX7_15 : Cond.methodLink RX7 15 yJ7_fill_53178 ∈ lw_g := lg_3 (i := 6) (by decide +kernel) rfl
theorem lkX4_105 : Cond.methodLink RX4 105 yX4_originOf ∈ lw_g := lg_2 (i := 234) (by decide +kernel) rfl
theorem lkX9_343 : Cond.methodLink RX9 343 yX7_clear ∈ lw_g := lg_3 (i := 2) (by decide +kernel) rfl
theorem lkX9_346 : Cond.methodLink RX9 346 yX4_areKin ∈ lw_g := lg_2 (i := 230) (by decide +kernel) rfl
theorem lkX9_349 : Cond.methodLink RX9 349 yX7_add ∈ lw_g := lg_3 (i := 7) (by decide +kernel) rfl
theorem lkX9_218 : Cond.methodLink RX9 218 yX9_isSoundOrNone ∈ lw_g := lg_4 (i := 178) (by decide +kernel) rfl
theorem lkX9_221 : Cond.methodLink RX9 221 yX9_columnSign ∈ lw_g := lg_4 (i := 181) (by decide +kernel) rfl
theorem lkX9_224 : Cond.methodLink RX9 224 yX9_collectAnswers ∈ lw_g := lg_4 (i := 184) (by decide +kernel) rfl
theorem lkX9_228 : Cond.methodLink RX9 228 yX7_countOf ∈ lw_g := lg_4 (i := 188) (by decide +kernel) rfl
theorem lkL_77 : Cond.methodLink RL 77 yX9_answers ∈ lw_g := lg_4 (i := 174) (by decide +kernel) rfl
theorem lkX10_208 : Cond.methodLink RX10 208 yX10_areKin ∈ lw_g := lg_7 (i := 133) (by decide +kernel) rfl
theorem lkX10_211 : Cond.methodLink RX10 211 yX10_answersNow ∈ lw_g := lg_7 (i := 129) (by decide +kernel) rfl
theorem lkX9_231 : Cond.methodLink RX9 231 yX7_winner ∈ lw_g := lg_3 (i := 40) (by decide +kernel) rfl
theorem lkL_80 : Cond.methodLink RL 80 yX9_mainAnswer ∈ lw_g := lg_4 (i := 195) (by decide +kernel) rfl
theorem lkX9_234 : Cond.methodLink RX9 234 yX9_distanceOf ∈ lw_g := lg_2 (i := 186) (by decide +kernel) rfl
theorem lkL_83 : Cond.methodLink RL 83 yX9_far ∈ lw_g := lg_4 (i := 202) (by decide +kernel) rfl
theorem lkX10_215 : Cond.methodLink RX10 215 Lib.Math.max.name ∈ lw_g := lg_7 (i := 153) (by decide +kernel) rfl
theorem lkX10_218 : Cond.methodLink RX10 218 yX10_shared ∈ lw_g := lg_7 (i := 154) (by decide +kernel) rfl
theorem lkX10_221 : Cond.methodLink RX10 221 yX10_costs ∈ lw_g := lg_7 (i := 145) (by decide +kernel) rfl
theorem lkX10_225 : Cond.methodLink RX10 225 yX10_farBy ∈ lw_g := lg_7 (i := 149) (by decide +kernel) rfl
theorem lkX9_238 : Cond.methodLink RX9 238 yX9_nearestTo ∈ lw_g := lg_2 (i := 181) (by decide +kernel) rfl
theorem lkL_87 : Cond.methodLink RL 87 yX9_nearest ∈ lw_g := lg_4 (i := 209) (by decide +kernel) rfl
theorem lkX10_229 : Cond.methodLink RX10 229 yX10_nearestBy ∈ lw_g := lg_7 (i := 162) (by decide +kernel) rfl
theorem lkX9_353 : Cond.methodLink RX9 353 yX9_isWitness ∈ lw_g := lg_2 (i := 226) (by decide +kernel) rfl
theorem lkX9_356 : Cond.methodLink RX9 356 yX9_openVotes ∈ lw_g := lg_2 (i := 238) (by decide +kernel) rfl
theorem lkX9_360 : Cond.methodLink RX9 360 yX9_castVotes ∈ lw_g := lg_3 (i := 24) (by decide +kernel) rfl
theorem lkX9_363 : Cond.methodLink RX9 363 yX9_elected ∈ lw_g := lg_3 (i := 36) (by decide +kernel) rfl
theorem lkX9_241 : Cond.methodLink RX9 241 yX9_recall ∈ lw_g := lg_2 (i := 222) (by decide +kernel) rfl
theorem lkL_90 : Cond.methodLink RL 90 yX9_recalled ∈ lw_g := lg_4 (i := 216) (by decide +kernel) rfl
theorem lkX10_233 : Cond.methodLink RX10 233 yX10_recalledNow ∈ lw_g := lg_7 (i := 170) (by decide +kernel) rfl
theorem lkL_93 : Cond.methodLink RL 93 yX9_recalledAt ∈ lw_g := lg_4 (i := 223) (by decide +kernel) rfl
theorem lkX9_244 : Cond.methodLink RX9 244 yX9_countRecalledWell ∈ lw_g := lg_2 (i := 218) (by decide +kernel) rfl
theorem lkL_96 : Cond.methodLink RL 96 yX9_recalledWell ∈ lw_g := lg_4 (i := 230) (by decide +kernel) rfl
theorem lkX10_236 : Cond.methodLink RX10 236 yX10_wellNow ∈ lw_g := lg_7 (i := 182) (by decide +kernel) rfl
theorem lkX2_20 : Cond.methodLink RX2 20 yX2_init ∈ lw_g := lg_5 (i := 14) (by decide +kernel) rfl
theorem lkX2_23 : Cond.methodLink RX2 23 yJx4a65c_size_8abf5 ∈ lw_g := lg_5 (i := 15) (by decide +kernel) rfl
theorem lkX2_27 : Cond.methodLink RX2 27 yJx4a65c_get_915e3 ∈ lw_g := lg_5 (i := 16) (by decide +kernel) rfl
theorem lkX2_33 : Cond.methodLink RX2 33 yJx4a65c_add_9ea2d ∈ lw_g := lg_5 (i := 18) (by decide +kernel) rfl
theorem lkJx4a65c_135 : Cond.methodLink RJx4a65c 135 yJx4a65c_rangeCheckForAdd_d00df ∈ lw_g := lg_5 (i := 23) (by decide +kernel) rfl
theorem lkX2_37 : Cond.methodLink RX2 37 yX2_lackingLaw ∈ lw_g := lg_5 (i := 9) (by decide +kernel) rfl
theorem lkX2_41 : Cond.methodLink RX2 41 yJx4a65c_add_7a177 ∈ lw_g := lg_5 (i := 19) (by decide +kernel) rfl
theorem lkX1_18 : Cond.methodLink RX1 18 yJx4a65c_init_da8c8 ∈ lw_g := lg_6 (i := 33) (by decide +kernel) rfl
theorem lkX1_19 : Cond.methodLink RX1 19 yJx4a65c_size_8abf5 ∈ lw_g := lg_6 (i := 34) (by decide +kernel) rfl
theorem lkX1_23 : Cond.methodLink RX1 23 yJx4a65c_get_915e3 ∈ lw_g := lg_6 (i := 35) (by decide +kernel) rfl
theorem lkX1_29 : Cond.methodLink RX1 29 yJx4a65c_add_9ea2d ∈ lw_g := lg_6 (i := 37) (by decide +kernel) rfl
theorem lkX1_33 : Cond.methodLink RX1 33 yX1_init ∈ lw_g := lg_6 (i := 39) (by decide +kernel) rfl
theorem lkX9_367 : Cond.methodLink RX9 367 yX1_replacing ∈ lw_g := lg_6 (i := 28) (by decide +kernel) rfl
theorem lkX9_272 : Cond.methodLink RX9 272 yX4_tellOf ∈ lw_g := lg_6 (i := 40) (by decide +kernel) rfl
theorem lkX9_276 : Cond.methodLink RX9 276 yX9_differs ∈ lw_g := lg_3 (i := 60) (by decide +kernel) rfl
theorem lkX9_247 : Cond.methodLink RX9 247 yX9_isLaw ∈ lw_g := lg_5 (i := 1) (by decide +kernel) rfl
theorem lkX9_251 : Cond.methodLink RX9 251 yX2_swappingLaw ∈ lw_g := lg_5 (i := 5) (by decide +kernel) rfl
theorem lkX9_255 : Cond.methodLink RX9 255 yX9_suppose ∈ lw_g := lg_6 (i := 24) (by decide +kernel) rfl
theorem lkX9_259 : Cond.methodLink RX9 259 yX9_countDifferent ∈ lw_g := lg_6 (i := 44) (by decide +kernel) rfl
theorem lkL_99 : Cond.methodLink RL 99 yX9_swapped ∈ lw_g := lg_4 (i := 237) (by decide +kernel) rfl
theorem lkX10_239 : Cond.methodLink RX10 239 arraycopyName ∈ lw_g := lg_7 (i := 194) (by decide +kernel) rfl
theorem lkX10_245 : Cond.methodLink RX10 245 yX10_swap ∈ lw_g := lg_7 (i := 199) (by decide +kernel) rfl
theorem lkX10_249 : Cond.methodLink RX10 249 yX10_told ∈ lw_g := lg_7 (i := 190) (by decide +kernel) rfl
theorem lkX10_253 : Cond.methodLink RX10 253 yX10_swapLaws ∈ lw_g := lg_7 (i := 195) (by decide +kernel) rfl
theorem lkX10_256 : Cond.methodLink RX10 256 yX10_unlike ∈ lw_g := lg_7 (i := 202) (by decide +kernel) rfl
theorem lkX9_262 : Cond.methodLink RX9 262 yX2_lackingLaw ∈ lw_g := lg_6 (i := 55) (by decide +kernel) rfl
theorem lkL_102 : Cond.methodLink RL 102 yX9_without ∈ lw_g := lg_6 (i := 51) (by decide +kernel) rfl
theorem lkX9_268 : Cond.methodLink RX9 268 yX1_lackingLoan ∈ lw_g := lg_6 (i := 63) (by decide +kernel) rfl
theorem lkL_105 : Cond.methodLink RL 105 yX9_withoutLoan ∈ lw_g := lg_6 (i := 59) (by decide +kernel) rfl
theorem lkL_108 : Cond.methodLink RL 108 yX9_looksLent ∈ lw_g := lg_6 (i := 71) (by decide +kernel) rfl
theorem lkX10_260 : Cond.methodLink RX10 260 yX10_unlent ∈ lw_g := lg_7 (i := 218) (by decide +kernel) rfl
theorem lkX9_282 : Cond.methodLink RX9 282 yX9_mixed ∈ lw_g := lg_2 (i := 153) (by decide +kernel) rfl
theorem lkX9_373 : Cond.methodLink RX9 373 yX9_mixSounds ∈ lw_g := lg_3 (i := 52) (by decide +kernel) rfl
theorem lkX9_286 : Cond.methodLink RX9 286 yX9_mixWord ∈ lw_g := lg_3 (i := 48) (by decide +kernel) rfl
theorem lkX9_290 : Cond.methodLink RX9 290 yX9_mixCosts ∈ lw_g := lg_3 (i := 64) (by decide +kernel) rfl
theorem lkL_112 : Cond.methodLink RL 112 yX9_init ∈ lw_g := lg_1 (i := 36) (by decide +kernel) rfl
theorem lkL_115 : Cond.methodLink RL 115 yX10_init ∈ lw_g := lg_6 (i := 77) (by decide +kernel) rfl
theorem lkL_116 : Cond.methodLink RL 116 yL_setSound ∈ lw_g := lg_3 (i := 68) (by decide +kernel) rfl
theorem lkL_121 : Cond.methodLink RL 121 yX10_setSound ∈ lw_g := lg_6 (i := 167) (by decide +kernel) rfl
theorem lkL_122 : Cond.methodLink RL 122 yX10_thrown ∈ lw_g := lg_6 (i := 163) (by decide +kernel) rfl
theorem lkL_126 : Cond.methodLink RL 126 yL_word ∈ lw_g := lg_3 (i := 173) (by decide +kernel) rfl
theorem lkL_129 : Cond.methodLink RL 129 yX10_word ∈ lw_g := lg_6 (i := 181) (by decide +kernel) rfl
theorem lkL_130 : Cond.methodLink RL 130 yL_spell ∈ lw_g := lg_3 (i := 183) (by decide +kernel) rfl
theorem lkL_132 : Cond.methodLink RL 132 yX10_spell ∈ lw_g := lg_6 (i := 192) (by decide +kernel) rfl
theorem lkL_133 : Cond.methodLink RL 133 yL_language ∈ lw_g := lg_3 (i := 210) (by decide +kernel) rfl
theorem lkL_135 : Cond.methodLink RL 135 yX10_language ∈ lw_g := lg_6 (i := 196) (by decide +kernel) rfl
theorem lkL_136 : Cond.methodLink RL 136 yL_law ∈ lw_g := lg_4 (i := 1) (by decide +kernel) rfl
theorem lkL_139 : Cond.methodLink RL 139 yX10_law ∈ lw_g := lg_6 (i := 204) (by decide +kernel) rfl
theorem lkL_140 : Cond.methodLink RL 140 yL_unlaw ∈ lw_g := lg_4 (i := 31) (by decide +kernel) rfl
theorem lkL_142 : Cond.methodLink RL 142 yX10_unlaw ∈ lw_g := lg_6 (i := 210) (by decide +kernel) rfl
theorem lkL_143 : Cond.methodLink RL 143 yL_loan ∈ lw_g := lg_4 (i := 51) (by decide +kernel) rfl
theorem lkL_146 : Cond.methodLink RL 146 yX10_loan ∈ lw_g := lg_6 (i := 214) (by decide +kernel) rfl
theorem lkL_147 : Cond.methodLink RL 147 yX9_languages ∈ lw_g := lg_2 (i := 56) (by decide +kernel) rfl
theorem lkL_150 : Cond.methodLink RL 150 yX10_languages ∈ lw_g := lg_6 (i := 218) (by decide +kernel) rfl
theorem lkL_151 : Cond.methodLink RL 151 yL_laws ∈ lw_g := lg_4 (i := 79) (by decide +kernel) rfl
theorem lkL_153 : Cond.methodLink RL 153 yX10_laws ∈ lw_g := lg_6 (i := 226) (by decide +kernel) rfl
theorem lkL_154 : Cond.methodLink RL 154 yX9_loans ∈ lw_g := lg_2 (i := 64) (by decide +kernel) rfl
theorem lkL_157 : Cond.methodLink RL 157 yX10_loans ∈ lw_g := lg_6 (i := 230) (by decide +kernel) rfl
theorem lkL_158 : Cond.methodLink RL 158 yL_common ∈ lw_g := lg_4 (i := 86) (by decide +kernel) rfl
theorem lkL_160 : Cond.methodLink RL 160 yX10_common ∈ lw_g := lg_6 (i := 234) (by decide +kernel) rfl
theorem lkL_161 : Cond.methodLink RL 161 yL_length ∈ lw_g := lg_4 (i := 93) (by decide +kernel) rfl
theorem lkL_163 : Cond.methodLink RL 163 yX10_length_ ∈ lw_g := lg_6 (i := 238) (by decide +kernel) rfl
theorem lkL_164 : Cond.methodLink RL 164 yL_soundAt ∈ lw_g := lg_4 (i := 101) (by decide +kernel) rfl
theorem lkL_167 : Cond.methodLink RL 167 yX10_soundAt ∈ lw_g := lg_7 (i := 36) (by decide +kernel) rfl
theorem lkL_168 : Cond.methodLink RL 168 yL_origin ∈ lw_g := lg_4 (i := 111) (by decide +kernel) rfl
theorem lkL_170 : Cond.methodLink RL 170 yX10_origin ∈ lw_g := lg_7 (i := 40) (by decide +kernel) rfl
theorem lkL_171 : Cond.methodLink RL 171 yL_changedBy ∈ lw_g := lg_4 (i := 118) (by decide +kernel) rfl
theorem lkL_173 : Cond.methodLink RL 173 yX10_changedBy ∈ lw_g := lg_7 (i := 52) (by decide +kernel) rfl
theorem lkL_174 : Cond.methodLink RL 174 yL_wealth ∈ lw_g := lg_4 (i := 125) (by decide +kernel) rfl
theorem lkL_176 : Cond.methodLink RL 176 yX10_wealth ∈ lw_g := lg_7 (i := 60) (by decide +kernel) rfl
theorem lkL_177 : Cond.methodLink RL 177 yL_alike ∈ lw_g := lg_4 (i := 132) (by decide +kernel) rfl
theorem lkL_179 : Cond.methodLink RL 179 yX10_alike ∈ lw_g := lg_7 (i := 68) (by decide +kernel) rfl
theorem lkL_180 : Cond.methodLink RL 180 yL_soundsOf ∈ lw_g := lg_4 (i := 139) (by decide +kernel) rfl
theorem lkL_182 : Cond.methodLink RL 182 yX10_soundsOf ∈ lw_g := lg_7 (i := 76) (by decide +kernel) rfl
theorem lkL_183 : Cond.methodLink RL 183 yL_cost ∈ lw_g := lg_4 (i := 146) (by decide +kernel) rfl
theorem lkL_185 : Cond.methodLink RL 185 yX10_cost ∈ lw_g := lg_7 (i := 84) (by decide +kernel) rfl
theorem lkL_186 : Cond.methodLink RL 186 yL_columns ∈ lw_g := lg_4 (i := 153) (by decide +kernel) rfl
theorem lkL_188 : Cond.methodLink RL 188 yX10_columns ∈ lw_g := lg_7 (i := 113) (by decide +kernel) rfl
theorem lkL_189 : Cond.methodLink RL 189 yL_columnAt ∈ lw_g := lg_4 (i := 164) (by decide +kernel) rfl
theorem lkL_191 : Cond.methodLink RL 191 yX10_columnAt ∈ lw_g := lg_7 (i := 121) (by decide +kernel) rfl
theorem lkL_192 : Cond.methodLink RL 192 yL_answers ∈ lw_g := lg_4 (i := 171) (by decide +kernel) rfl
theorem lkL_194 : Cond.methodLink RL 194 yX10_answers ∈ lw_g := lg_7 (i := 125) (by decide +kernel) rfl
theorem lkL_195 : Cond.methodLink RL 195 yL_mainAnswer ∈ lw_g := lg_4 (i := 192) (by decide +kernel) rfl
theorem lkL_197 : Cond.methodLink RL 197 yX10_mainAnswer ∈ lw_g := lg_7 (i := 137) (by decide +kernel) rfl
theorem lkL_198 : Cond.methodLink RL 198 yL_far ∈ lw_g := lg_4 (i := 199) (by decide +kernel) rfl
theorem lkL_201 : Cond.methodLink RL 201 yX10_far ∈ lw_g := lg_7 (i := 141) (by decide +kernel) rfl
theorem lkL_202 : Cond.methodLink RL 202 yL_nearest ∈ lw_g := lg_4 (i := 206) (by decide +kernel) rfl
theorem lkL_204 : Cond.methodLink RL 204 yX10_nearest ∈ lw_g := lg_7 (i := 158) (by decide +kernel) rfl
theorem lkL_205 : Cond.methodLink RL 205 yL_recalled ∈ lw_g := lg_4 (i := 213) (by decide +kernel) rfl
theorem lkL_207 : Cond.methodLink RL 207 yX10_recalled ∈ lw_g := lg_7 (i := 166) (by decide +kernel) rfl
theorem lkL_208 : Cond.methodLink RL 208 yL_recalledAt ∈ lw_g := lg_4 (i := 220) (by decide +kernel) rfl
theorem lkL_210 : Cond.methodLink RL 210 yX10_recalledAt ∈ lw_g := lg_7 (i := 174) (by decide +kernel) rfl
theorem lkL_211 : Cond.methodLink RL 211 yL_recalledWell ∈ lw_g := lg_4 (i := 227) (by decide +kernel) rfl
theorem lkL_213 : Cond.methodLink RL 213 yX10_recalledWell ∈ lw_g := lg_7 (i := 178) (by decide +kernel) rfl
theorem lkL_214 : Cond.methodLink RL 214 yL_swapped ∈ lw_g := lg_4 (i := 234) (by decide +kernel) rfl
theorem lkL_216 : Cond.methodLink RL 216 yX10_swapped ∈ lw_g := lg_7 (i := 186) (by decide +kernel) rfl
theorem lkL_217 : Cond.methodLink RL 217 yL_without ∈ lw_g := lg_6 (i := 48) (by decide +kernel) rfl
theorem lkL_219 : Cond.methodLink RL 219 yX10_without ∈ lw_g := lg_7 (i := 206) (by decide +kernel) rfl
theorem lkL_220 : Cond.methodLink RL 220 yL_withoutLoan ∈ lw_g := lg_6 (i := 56) (by decide +kernel) rfl
theorem lkL_222 : Cond.methodLink RL 222 yX10_withoutLoan ∈ lw_g := lg_7 (i := 210) (by decide +kernel) rfl
theorem lkL_223 : Cond.methodLink RL 223 yL_looksLent ∈ lw_g := lg_6 (i := 68) (by decide +kernel) rfl
theorem lkL_225 : Cond.methodLink RL 225 yX10_looksLent ∈ lw_g := lg_7 (i := 214) (by decide +kernel) rfl
theorem lkL_226 : Cond.methodLink RL 226 yX9_digest ∈ lw_g := lg_2 (i := 68) (by decide +kernel) rfl
theorem lkL_230 : Cond.methodLink RL 230 yX10_digest ∈ lw_g := lg_7 (i := 222) (by decide +kernel) rfl
theorem smJ7_fill_53178 : Cond.static yJ7_fill_53178 ∈ lw_g := lg_1 (i := 51) (by decide +kernel) rfl
theorem imX6_init : Cond.instanceMethod yX6_init ∈ lw_g := lg_1 (i := 45) (by decide +kernel) rfl
theorem imJxa1e45_init_da8c8 : Cond.instanceMethod yJxa1e45_init_da8c8 ∈ lw_g := lg_1 (i := 74) (by decide +kernel) rfl
theorem imJxc12de_init_da8c8 : Cond.instanceMethod yJxc12de_init_da8c8 ∈ lw_g := lg_1 (i := 71) (by decide +kernel) rfl
theorem imJx4a65c_init_da8c8 : Cond.instanceMethod yJx4a65c_init_da8c8 ∈ lw_g := lg_1 (i := 68) (by decide +kernel) rfl
theorem imX2_init : Cond.instanceMethod yX2_init ∈ lw_g := lg_1 (i := 95) (by decide +kernel) rfl
theorem smJ8_newLength_cabcc : Cond.static yJ8_newLength_cabcc ∈ lw_g := lg_1 (i := 128) (by decide +kernel) rfl
theorem smJ7_copyOf_6403c : Cond.static yJ7_copyOf_6403c ∈ lw_g := lg_1 (i := 161) (by decide +kernel) rfl
theorem smJ7_copyOf_1904c : Cond.static yJ7_copyOf_1904c ∈ lw_g := lg_1 (i := 138) (by decide +kernel) rfl
theorem imJx4a65c_grow_92f84 : Cond.instanceMethod yJx4a65c_grow_92f84 ∈ lw_g := lg_1 (i := 125) (by decide +kernel) rfl
theorem seJx4a65c_grow_92f84 : Cond.selects RJx4a65c yJx4a65c_grow_92f84 yJx4a65c_grow_92f84 ∈ lw_g := lg_0 (i := 2) (by decide +kernel) rfl
theorem imJx4a65c_grow_d5877 : Cond.instanceMethod yJx4a65c_grow_d5877 ∈ lw_g := lg_1 (i := 121) (by decide +kernel) rfl
theorem seJx4a65c_grow_d5877 : Cond.selects RJx4a65c yJx4a65c_grow_d5877 yJx4a65c_grow_d5877 ∈ lw_g := lg_0 (i := 1) (by decide +kernel) rfl
theorem imJx4a65c_add_72be8 : Cond.instanceMethod yJx4a65c_add_72be8 ∈ lw_g := lg_1 (i := 117) (by decide +kernel) rfl
theorem seJx4a65c_add_72be8 : Cond.selects RJx4a65c yJx4a65c_add_72be8 yJx4a65c_add_72be8 ∈ lw_g := lg_0 (i := 0) (by decide +kernel) rfl
theorem imJx4a65c_add_9ea2d : Cond.instanceMethod yJx4a65c_add_9ea2d ∈ lw_g := lg_1 (i := 112) (by decide +kernel) rfl
theorem seJx4a65c_add_9ea2d : Cond.selects RJx4a65c yJx4a65c_add_9ea2d yJx4a65c_add_9ea2d ∈ lw_g := lg_1 (i := 113) (by decide +kernel) rfl
theorem smX9_motherAlone : Cond.static yX9_motherAlone ∈ lw_g := lg_1 (i := 63) (by decide +kernel) rfl
theorem imX1_init : Cond.instanceMethod yX1_init ∈ lw_g := lg_1 (i := 177) (by decide +kernel) rfl
theorem imX4_init : Cond.instanceMethod yX4_init ∈ lw_g := lg_1 (i := 194) (by decide +kernel) rfl
theorem imX0_init : Cond.instanceMethod yX0_init ∈ lw_g := lg_1 (i := 223) (by decide +kernel) rfl
theorem imX7_init : Cond.instanceMethod yX7_init ∈ lw_g := lg_2 (i := 16) (by decide +kernel) rfl
theorem imX9_init : Cond.instanceMethod yX9_init ∈ lw_g := lg_1 (i := 37) (by decide +kernel) rfl
theorem imX10_init : Cond.instanceMethod yX10_init ∈ lw_g := lg_6 (i := 78) (by decide +kernel) rfl
theorem smX9_isSound : Cond.static yX9_isSound ∈ lw_g := lg_3 (i := 45) (by decide +kernel) rfl
theorem smX9_refuseUnless : Cond.static yX9_refuseUnless ∈ lw_g := lg_3 (i := 77) (by decide +kernel) rfl
theorem imX6_featuresOf : Cond.instanceMethod yX6_featuresOf ∈ lw_g := lg_3 (i := 148) (by decide +kernel) rfl
theorem seX6_featuresOf : Cond.selects RX6 yX6_featuresOf yX6_featuresOf ∈ lw_g := lg_3 (i := 149) (by decide +kernel) rfl
theorem smJ6_bitCount_0f7a4 : Cond.static yJ6_bitCount_0f7a4 ∈ lw_g := lg_3 (i := 156) (by decide +kernel) rfl
theorem imX6_giveFeatures : Cond.instanceMethod yX6_giveFeatures ∈ lw_g := lg_3 (i := 152) (by decide +kernel) rfl
theorem seX6_giveFeatures : Cond.selects RX6 yX6_giveFeatures yX6_giveFeatures ∈ lw_g := lg_3 (i := 153) (by decide +kernel) rfl
theorem imX4_forget : Cond.instanceMethod yX4_forget ∈ lw_g := lg_3 (i := 170) (by decide +kernel) rfl
theorem seX4_forget : Cond.selects RX4 yX4_forget yX4_forget ∈ lw_g := lg_3 (i := 171) (by decide +kernel) rfl
theorem imX9_forgetMeaning : Cond.instanceMethod yX9_forgetMeaning ∈ lw_g := lg_3 (i := 167) (by decide +kernel) rfl
theorem seX9_forgetMeaning : Cond.selects RX9 yX9_forgetMeaning yX9_forgetMeaning ∈ lw_g := lg_0 (i := 30) (by decide +kernel) rfl
theorem imX9_forgetAll : Cond.instanceMethod yX9_forgetAll ∈ lw_g := lg_3 (i := 163) (by decide +kernel) rfl
theorem seX9_forgetAll : Cond.selects RX9 yX9_forgetAll yX9_forgetAll ∈ lw_g := lg_0 (i := 29) (by decide +kernel) rfl
theorem imX9_setSound : Cond.instanceMethod yX9_setSound ∈ lw_g := lg_3 (i := 73) (by decide +kernel) rfl
theorem seX9_setSound : Cond.selects RX9 yX9_setSound yX9_setSound ∈ lw_g := lg_3 (i := 74) (by decide +kernel) rfl
theorem smL_setSound : Cond.static yL_setSound ∈ lw_g := lg_3 (i := 69) (by decide +kernel) rfl
theorem smX10_isIn : Cond.static yX10_isIn ∈ lw_g := lg_6 (i := 175) (by decide +kernel) rfl
theorem smX10_isSound : Cond.static yX10_isSound ∈ lw_g := lg_6 (i := 172) (by decide +kernel) rfl
theorem imX10_no : Cond.instanceMethod yX10_no ∈ lw_g := lg_6 (i := 179) (by decide +kernel) rfl
theorem seX10_no : Cond.selects RX10 yX10_no yX10_no ∈ lw_g := lg_0 (i := 40) (by decide +kernel) rfl
theorem imX10_setSound : Cond.instanceMethod yX10_setSound ∈ lw_g := lg_6 (i := 168) (by decide +kernel) rfl
theorem seX10_setSound : Cond.selects RX10 yX10_setSound yX10_setSound ∈ lw_g := lg_6 (i := 169) (by decide +kernel) rfl
theorem imX10_thrown : Cond.instanceMethod yX10_thrown ∈ lw_g := lg_6 (i := 164) (by decide +kernel) rfl
theorem seX10_thrown : Cond.selects RX10 yX10_thrown yX10_thrown ∈ lw_g := lg_6 (i := 165) (by decide +kernel) rfl
theorem smX9_isMeaning : Cond.static yX9_isMeaning ∈ lw_g := lg_3 (i := 181) (by decide +kernel) rfl
theorem smX8_size : Cond.static yX8_size ∈ lw_g := lg_2 (i := 126) (by decide +kernel) rfl
theorem imX9_word : Cond.instanceMethod yX9_word ∈ lw_g := lg_3 (i := 177) (by decide +kernel) rfl
theorem seX9_word : Cond.selects RX9 yX9_word yX9_word ∈ lw_g := lg_3 (i := 178) (by decide +kernel) rfl
theorem smL_word : Cond.static yL_word ∈ lw_g := lg_3 (i := 174) (by decide +kernel) rfl
theorem smX10_isMeaning : Cond.static yX10_isMeaning ∈ lw_g := lg_6 (i := 186) (by decide +kernel) rfl
theorem smX10_length : Cond.static yX10_length ∈ lw_g := lg_6 (i := 189) (by decide +kernel) rfl
theorem imX10_word : Cond.instanceMethod yX10_word ∈ lw_g := lg_6 (i := 182) (by decide +kernel) rfl
theorem seX10_word : Cond.selects RX10 yX10_word yX10_word ∈ lw_g := lg_6 (i := 183) (by decide +kernel) rfl
theorem smX9_requireState : Cond.static yX9_requireState ∈ lw_g := lg_3 (i := 192) (by decide +kernel) rfl
theorem smX8_plus : Cond.static yX8_plus ∈ lw_g := lg_2 (i := 148) (by decide +kernel) rfl
theorem imX9_spell : Cond.instanceMethod yX9_spell ∈ lw_g := lg_3 (i := 188) (by decide +kernel) rfl
theorem seX9_spell : Cond.selects RX9 yX9_spell yX9_spell ∈ lw_g := lg_3 (i := 189) (by decide +kernel) rfl
theorem smL_spell : Cond.static yL_spell ∈ lw_g := lg_3 (i := 184) (by decide +kernel) rfl
theorem imX10_spell : Cond.instanceMethod yX10_spell ∈ lw_g := lg_6 (i := 193) (by decide +kernel) rfl
theorem seX10_spell : Cond.selects RX10 yX10_spell yX10_spell ∈ lw_g := lg_6 (i := 194) (by decide +kernel) rfl
theorem imJx4a65c_size_8abf5 : Cond.instanceMethod yJx4a65c_size_8abf5 ∈ lw_g := lg_2 (i := 61) (by decide +kernel) rfl
theorem seJx4a65c_size_8abf5 : Cond.selects RJx4a65c yJx4a65c_size_8abf5 yJx4a65c_size_8abf5 ∈ lw_g := lg_2 (i := 62) (by decide +kernel) rfl
theorem imX9_isLanguage : Cond.instanceMethod yX9_isLanguage ∈ lw_g := lg_3 (i := 220) (by decide +kernel) rfl
theorem seX9_isLanguage : Cond.selects RX9 yX9_isLanguage yX9_isLanguage ∈ lw_g := lg_0 (i := 31) (by decide +kernel) rfl
theorem smX9_requireThere : Cond.static yX9_requireThere ∈ lw_g := lg_3 (i := 223) (by decide +kernel) rfl
theorem imX9_language : Cond.instanceMethod yX9_language ∈ lw_g := lg_3 (i := 215) (by decide +kernel) rfl
theorem seX9_language : Cond.selects RX9 yX9_language yX9_language ∈ lw_g := lg_3 (i := 216) (by decide +kernel) rfl
theorem smL_language : Cond.static yL_language ∈ lw_g := lg_3 (i := 211) (by decide +kernel) rfl
theorem imX10_isLanguage : Cond.instanceMethod yX10_isLanguage ∈ lw_g := lg_6 (i := 202) (by decide +kernel) rfl
theorem seX10_isLanguage : Cond.selects RX10 yX10_isLanguage yX10_isLanguage ∈ lw_g := lg_0 (i := 41) (by decide +kernel) rfl
theorem imX10_language : Cond.instanceMethod yX10_language ∈ lw_g := lg_6 (i := 197) (by decide +kernel) rfl
theorem seX10_language : Cond.selects RX10 yX10_language yX10_language ∈ lw_g := lg_6 (i := 198) (by decide +kernel) rfl
theorem smX9_isNeighbourSet : Cond.static yX9_isNeighbourSet ∈ lw_g := lg_4 (i := 10) (by decide +kernel) rfl
theorem smJ3_checkIndex_8e157 : Cond.static yJ3_checkIndex_8e157 ∈ lw_g := lg_2 (i := 100) (by decide +kernel) rfl
theorem smJ15_checkIndex_7cf53 : Cond.static yJ15_checkIndex_7cf53 ∈ lw_g := lg_2 (i := 97) (by decide +kernel) rfl
theorem imJx4a65c_elementData_915e3 : Cond.instanceMethod yJx4a65c_elementData_915e3 ∈ lw_g := lg_2 (i := 103) (by decide +kernel) rfl
theorem seJx4a65c_elementData_915e3 : Cond.selects RJx4a65c yJx4a65c_elementData_915e3 yJx4a65c_elementData_915e3 ∈ lw_g := lg_2 (i := 104) (by decide +kernel) rfl
theorem imJx4a65c_get_915e3 : Cond.instanceMethod yJx4a65c_get_915e3 ∈ lw_g := lg_2 (i := 93) (by decide +kernel) rfl
theorem seJx4a65c_get_915e3 : Cond.selects RJx4a65c yJx4a65c_get_915e3 yJx4a65c_get_915e3 ∈ lw_g := lg_2 (i := 94) (by decide +kernel) rfl
theorem imX9_lawsOf : Cond.instanceMethod yX9_lawsOf ∈ lw_g := lg_2 (i := 159) (by decide +kernel) rfl
theorem seX9_lawsOf : Cond.selects RX9 yX9_lawsOf yX9_lawsOf ∈ lw_g := lg_0 (i := 8) (by decide +kernel) rfl
theorem imX3_init : Cond.instanceMethod yX3_init ∈ lw_g := lg_4 (i := 15) (by decide +kernel) rfl
theorem imX9_law : Cond.instanceMethod yX9_law ∈ lw_g := lg_4 (i := 5) (by decide +kernel) rfl
theorem seX9_law : Cond.selects RX9 yX9_law yX9_law ∈ lw_g := lg_4 (i := 6) (by decide +kernel) rfl
theorem smL_law : Cond.static yL_law ∈ lw_g := lg_4 (i := 2) (by decide +kernel) rfl
theorem imX10_law : Cond.instanceMethod yX10_law ∈ lw_g := lg_6 (i := 205) (by decide +kernel) rfl
theorem seX10_law : Cond.selects RX10 yX10_law yX10_law ∈ lw_g := lg_6 (i := 206) (by decide +kernel) rfl
theorem imJx4a65c_isEmpty_aae02 : Cond.instanceMethod yJx4a65c_isEmpty_aae02 ∈ lw_g := lg_4 (i := 39) (by decide +kernel) rfl
theorem seJx4a65c_isEmpty_aae02 : Cond.selects RJx4a65c yJx4a65c_isEmpty_aae02 yJx4a65c_isEmpty_aae02 ∈ lw_g := lg_4 (i := 40) (by decide +kernel) rfl
theorem imJx4a65c_fastRemove_b59b0 : Cond.instanceMethod yJx4a65c_fastRemove_b59b0 ∈ lw_g := lg_4 (i := 48) (by decide +kernel) rfl
theorem seJx4a65c_fastRemove_b59b0 : Cond.selects RJx4a65c yJx4a65c_fastRemove_b59b0 yJx4a65c_fastRemove_b59b0 ∈ lw_g := lg_0 (i := 32) (by decide +kernel) rfl
theorem imJx4a65c_remove_915e3 : Cond.instanceMethod yJx4a65c_remove_915e3 ∈ lw_g := lg_4 (i := 43) (by decide +kernel) rfl
theorem seJx4a65c_remove_915e3 : Cond.selects RJx4a65c yJx4a65c_remove_915e3 yJx4a65c_remove_915e3 ∈ lw_g := lg_4 (i := 44) (by decide +kernel) rfl
theorem imX9_unlaw : Cond.instanceMethod yX9_unlaw ∈ lw_g := lg_4 (i := 35) (by decide +kernel) rfl
theorem seX9_unlaw : Cond.selects RX9 yX9_unlaw yX9_unlaw ∈ lw_g := lg_4 (i := 36) (by decide +kernel) rfl
theorem smL_unlaw : Cond.static yL_unlaw ∈ lw_g := lg_4 (i := 32) (by decide +kernel) rfl
theorem imX10_unlaw : Cond.instanceMethod yX10_unlaw ∈ lw_g := lg_6 (i := 211) (by decide +kernel) rfl
theorem seX10_unlaw : Cond.selects RX10 yX10_unlaw yX10_unlaw ∈ lw_g := lg_6 (i := 212) (by decide +kernel) rfl
theorem imX5_init : Cond.instanceMethod yX5_init ∈ lw_g := lg_4 (i := 61) (by decide +kernel) rfl
theorem imX9_loan : Cond.instanceMethod yX9_loan ∈ lw_g := lg_4 (i := 55) (by decide +kernel) rfl
theorem seX9_loan : Cond.selects RX9 yX9_loan yX9_loan ∈ lw_g := lg_4 (i := 56) (by decide +kernel) rfl
theorem smL_loan : Cond.static yL_loan ∈ lw_g := lg_4 (i := 52) (by decide +kernel) rfl
theorem imX10_loan : Cond.instanceMethod yX10_loan ∈ lw_g := lg_6 (i := 215) (by decide +kernel) rfl
theorem seX10_loan : Cond.selects RX10 yX10_loan yX10_loan ∈ lw_g := lg_6 (i := 216) (by decide +kernel) rfl
theorem imX9_languages : Cond.instanceMethod yX9_languages ∈ lw_g := lg_2 (i := 57) (by decide +kernel) rfl
theorem seX9_languages : Cond.selects RX9 yX9_languages yX9_languages ∈ lw_g := lg_2 (i := 58) (by decide +kernel) rfl
theorem imX10_ok : Cond.instanceMethod yX10_ok ∈ lw_g := lg_6 (i := 224) (by decide +kernel) rfl
theorem seX10_ok : Cond.selects RX10 yX10_ok yX10_ok ∈ lw_g := lg_0 (i := 42) (by decide +kernel) rfl
theorem imX10_languages : Cond.instanceMethod yX10_languages ∈ lw_g := lg_6 (i := 219) (by decide +kernel) rfl
theorem seX10_languages : Cond.selects RX10 yX10_languages yX10_languages ∈ lw_g := lg_6 (i := 220) (by decide +kernel) rfl
theorem imX9_laws : Cond.instanceMethod yX9_laws ∈ lw_g := lg_4 (i := 83) (by decide +kernel) rfl
theorem seX9_laws : Cond.selects RX9 yX9_laws yX9_laws ∈ lw_g := lg_4 (i := 84) (by decide +kernel) rfl
theorem smL_laws : Cond.static yL_laws ∈ lw_g := lg_4 (i := 80) (by decide +kernel) rfl
theorem imX10_laws : Cond.instanceMethod yX10_laws ∈ lw_g := lg_6 (i := 227) (by decide +kernel) rfl
theorem seX10_laws : Cond.selects RX10 yX10_laws yX10_laws ∈ lw_g := lg_6 (i := 228) (by decide +kernel) rfl
theorem imX9_loans : Cond.instanceMethod yX9_loans ∈ lw_g := lg_2 (i := 65) (by decide +kernel) rfl
theorem seX9_loans : Cond.selects RX9 yX9_loans yX9_loans ∈ lw_g := lg_2 (i := 66) (by decide +kernel) rfl
theorem imX10_loans : Cond.instanceMethod yX10_loans ∈ lw_g := lg_6 (i := 231) (by decide +kernel) rfl
theorem seX10_loans : Cond.selects RX10 yX10_loans yX10_loans ∈ lw_g := lg_6 (i := 232) (by decide +kernel) rfl
theorem imX9_common : Cond.instanceMethod yX9_common ∈ lw_g := lg_4 (i := 90) (by decide +kernel) rfl
theorem seX9_common : Cond.selects RX9 yX9_common yX9_common ∈ lw_g := lg_4 (i := 91) (by decide +kernel) rfl
theorem smL_common : Cond.static yL_common ∈ lw_g := lg_4 (i := 87) (by decide +kernel) rfl
theorem imX10_common : Cond.instanceMethod yX10_common ∈ lw_g := lg_6 (i := 235) (by decide +kernel) rfl
theorem seX10_common : Cond.selects RX10 yX10_common yX10_common ∈ lw_g := lg_6 (i := 236) (by decide +kernel) rfl
theorem smX4_cell : Cond.static yX4_cell ∈ lw_g := lg_2 (i := 90) (by decide +kernel) rfl
theorem imX4_inherit : Cond.instanceMethod yX4_inherit ∈ lw_g := lg_2 (i := 87) (by decide +kernel) rfl
theorem seX4_inherit : Cond.selects RX4 yX4_inherit yX4_inherit ∈ lw_g := lg_0 (i := 4) (by decide +kernel) rfl
theorem imX5_comesTo : Cond.instanceMethod yX5_comesTo ∈ lw_g := lg_2 (i := 113) (by decide +kernel) rfl
theorem seX5_comesTo : Cond.selects RX5 yX5_comesTo yX5_comesTo ∈ lw_g := lg_2 (i := 114) (by decide +kernel) rfl
theorem imX4_hasWord : Cond.instanceMethod yX4_hasWord ∈ lw_g := lg_2 (i := 117) (by decide +kernel) rfl
theorem seX4_hasWord : Cond.selects RX4 yX4_hasWord yX4_hasWord ∈ lw_g := lg_2 (i := 118) (by decide +kernel) rfl
theorem imX4_borrow : Cond.instanceMethod yX4_borrow ∈ lw_g := lg_2 (i := 109) (by decide +kernel) rfl
theorem seX4_borrow : Cond.selects RX4 yX4_borrow yX4_borrow ∈ lw_g := lg_0 (i := 5) (by decide +kernel) rfl
theorem smX8_at : Cond.static yX8_at ∈ lw_g := lg_2 (i := 129) (by decide +kernel) rfl
theorem smX3_has : Cond.static yX3_has ∈ lw_g := lg_2 (i := 137) (by decide +kernel) rfl
theorem imX3_holdsAt : Cond.instanceMethod yX3_holdsAt ∈ lw_g := lg_2 (i := 133) (by decide +kernel) rfl
theorem seX3_holdsAt : Cond.selects RX3 yX3_holdsAt yX3_holdsAt ∈ lw_g := lg_0 (i := 6) (by decide +kernel) rfl
theorem imX6_turned : Cond.instanceMethod yX6_turned ∈ lw_g := lg_2 (i := 144) (by decide +kernel) rfl
theorem seX6_turned : Cond.selects RX6 yX6_turned yX6_turned ∈ lw_g := lg_2 (i := 145) (by decide +kernel) rfl
theorem imX3_heirOf : Cond.instanceMethod yX3_heirOf ∈ lw_g := lg_2 (i := 141) (by decide +kernel) rfl
theorem seX3_heirOf : Cond.selects RX3 yX3_heirOf yX3_heirOf ∈ lw_g := lg_0 (i := 7) (by decide +kernel) rfl
theorem imX3_goOver : Cond.instanceMethod yX3_goOver ∈ lw_g := lg_2 (i := 122) (by decide +kernel) rfl
theorem seX3_goOver : Cond.selects RX3 yX3_goOver yX3_goOver ∈ lw_g := lg_2 (i := 123) (by decide +kernel) rfl
theorem imX4_tellWord : Cond.instanceMethod yX4_tellWord ∈ lw_g := lg_2 (i := 83) (by decide +kernel) rfl
theorem seX4_tellWord : Cond.selects RX4 yX4_tellWord yX4_tellWord ∈ lw_g := lg_0 (i := 3) (by decide +kernel) rfl
theorem imX4_freshen : Cond.instanceMethod yX4_freshen ∈ lw_g := lg_2 (i := 77) (by decide +kernel) rfl
theorem seX4_freshen : Cond.selects RX4 yX4_freshen yX4_freshen ∈ lw_g := lg_2 (i := 78) (by decide +kernel) rfl
theorem imX4_wordOf : Cond.instanceMethod yX4_wordOf ∈ lw_g := lg_2 (i := 172) (by decide +kernel) rfl
theorem seX4_wordOf : Cond.selects RX4 yX4_wordOf yX4_wordOf ∈ lw_g := lg_2 (i := 173) (by decide +kernel) rfl
theorem imX9_length : Cond.instanceMethod yX9_length ∈ lw_g := lg_4 (i := 97) (by decide +kernel) rfl
theorem seX9_length : Cond.selects RX9 yX9_length yX9_length ∈ lw_g := lg_4 (i := 98) (by decide +kernel) rfl
theorem smL_length : Cond.static yL_length ∈ lw_g := lg_4 (i := 94) (by decide +kernel) rfl
theorem imX10_borrow : Cond.instanceMethod yX10_borrow ∈ lw_g := lg_7 (i := 16) (by decide +kernel) rfl
theorem seX10_borrow : Cond.selects RX10 yX10_borrow yX10_borrow ∈ lw_g := lg_0 (i := 46) (by decide +kernel) rfl
theorem smX10_at : Cond.static yX10_at ∈ lw_g := lg_7 (i := 23) (by decide +kernel) rfl
theorem smX10_isBeside : Cond.static yX10_isBeside ∈ lw_g := lg_7 (i := 26) (by decide +kernel) rfl
theorem imX10_turned : Cond.instanceMethod yX10_turned ∈ lw_g := lg_7 (i := 30) (by decide +kernel) rfl
theorem seX10_turned : Cond.selects RX10 yX10_turned yX10_turned ∈ lw_g := lg_0 (i := 48) (by decide +kernel) rfl
theorem imX10_changed : Cond.instanceMethod yX10_changed ∈ lw_g := lg_7 (i := 20) (by decide +kernel) rfl
theorem seX10_changed : Cond.selects RX10 yX10_changed yX10_changed ∈ lw_g := lg_0 (i := 47) (by decide +kernel) rfl
theorem imX10_grow : Cond.instanceMethod yX10_grow ∈ lw_g := lg_7 (i := 12) (by decide +kernel) rfl
theorem seX10_grow : Cond.selects RX10 yX10_grow yX10_grow ∈ lw_g := lg_0 (i := 45) (by decide +kernel) rfl
theorem imX10_solve : Cond.instanceMethod yX10_solve ∈ lw_g := lg_7 (i := 8) (by decide +kernel) rfl
theorem seX10_solve : Cond.selects RX10 yX10_solve yX10_solve ∈ lw_g := lg_0 (i := 44) (by decide +kernel) rfl
theorem imX10_isAsked : Cond.instanceMethod yX10_isAsked ∈ lw_g := lg_7 (i := 4) (by decide +kernel) rfl
theorem seX10_isAsked : Cond.selects RX10 yX10_isAsked yX10_isAsked ∈ lw_g := lg_0 (i := 43) (by decide +kernel) rfl
theorem imX10_wordOf : Cond.instanceMethod yX10_wordOf ∈ lw_g := lg_7 (i := 34) (by decide +kernel) rfl
theorem seX10_wordOf : Cond.selects RX10 yX10_wordOf yX10_wordOf ∈ lw_g := lg_0 (i := 49) (by decide +kernel) rfl
theorem imX10_length_ : Cond.instanceMethod yX10_length_ ∈ lw_g := lg_6 (i := 239) (by decide +kernel) rfl
theorem seX10_length_ : Cond.selects RX10 yX10_length_ yX10_length_ ∈ lw_g := lg_7 (i := 0) (by decide +kernel) rfl
theorem smX9_soundIn : Cond.static yX9_soundIn ∈ lw_g := lg_4 (i := 109) (by decide +kernel) rfl
theorem imX9_soundAt : Cond.instanceMethod yX9_soundAt ∈ lw_g := lg_4 (i := 105) (by decide +kernel) rfl
theorem seX9_soundAt : Cond.selects RX9 yX9_soundAt yX9_soundAt ∈ lw_g := lg_4 (i := 106) (by decide +kernel) rfl
theorem smL_soundAt : Cond.static yL_soundAt ∈ lw_g := lg_4 (i := 102) (by decide +kernel) rfl
theorem imX10_soundAt : Cond.instanceMethod yX10_soundAt ∈ lw_g := lg_7 (i := 37) (by decide +kernel) rfl
theorem seX10_soundAt : Cond.selects RX10 yX10_soundAt yX10_soundAt ∈ lw_g := lg_7 (i := 38) (by decide +kernel) rfl
theorem imX4_originOf : Cond.instanceMethod yX4_originOf ∈ lw_g := lg_2 (i := 235) (by decide +kernel) rfl
theorem seX4_originOf : Cond.selects RX4 yX4_originOf yX4_originOf ∈ lw_g := lg_2 (i := 236) (by decide +kernel) rfl
theorem imX9_origin : Cond.instanceMethod yX9_origin ∈ lw_g := lg_4 (i := 115) (by decide +kernel) rfl
theorem seX9_origin : Cond.selects RX9 yX9_origin yX9_origin ∈ lw_g := lg_4 (i := 116) (by decide +kernel) rfl
theorem smL_origin : Cond.static yL_origin ∈ lw_g := lg_4 (i := 112) (by decide +kernel) rfl
theorem imX10_hasWord : Cond.instanceMethod yX10_hasWord ∈ lw_g := lg_7 (i := 50) (by decide +kernel) rfl
theorem seX10_hasWord : Cond.selects RX10 yX10_hasWord yX10_hasWord ∈ lw_g := lg_0 (i := 51) (by decide +kernel) rfl
theorem imX10_originOf : Cond.instanceMethod yX10_originOf ∈ lw_g := lg_7 (i := 46) (by decide +kernel) rfl
theorem seX10_originOf : Cond.selects RX10 yX10_originOf yX10_originOf ∈ lw_g := lg_0 (i := 50) (by decide +kernel) rfl
theorem imX10_origin : Cond.instanceMethod yX10_origin ∈ lw_g := lg_7 (i := 41) (by decide +kernel) rfl
theorem seX10_origin : Cond.selects RX10 yX10_origin yX10_origin ∈ lw_g := lg_7 (i := 42) (by decide +kernel) rfl
theorem imX4_changersOf : Cond.instanceMethod yX4_changersOf ∈ lw_g := lg_3 (i := 57) (by decide +kernel) rfl
theorem seX4_changersOf : Cond.selects RX4 yX4_changersOf yX4_changersOf ∈ lw_g := lg_3 (i := 58) (by decide +kernel) rfl
theorem imX9_changedBy : Cond.instanceMethod yX9_changedBy ∈ lw_g := lg_4 (i := 122) (by decide +kernel) rfl
theorem seX9_changedBy : Cond.selects RX9 yX9_changedBy yX9_changedBy ∈ lw_g := lg_4 (i := 123) (by decide +kernel) rfl
theorem smL_changedBy : Cond.static yL_changedBy ∈ lw_g := lg_4 (i := 119) (by decide +kernel) rfl
theorem imX10_changesOf : Cond.instanceMethod yX10_changesOf ∈ lw_g := lg_7 (i := 58) (by decide +kernel) rfl
theorem seX10_changesOf : Cond.selects RX10 yX10_changesOf yX10_changesOf ∈ lw_g := lg_0 (i := 52) (by decide +kernel) rfl
theorem imX10_changedBy : Cond.instanceMethod yX10_changedBy ∈ lw_g := lg_7 (i := 53) (by decide +kernel) rfl
theorem seX10_changedBy : Cond.selects RX10 yX10_changedBy yX10_changedBy ∈ lw_g := lg_7 (i := 54) (by decide +kernel) rfl
theorem imX4_freshenAll : Cond.instanceMethod yX4_freshenAll ∈ lw_g := lg_2 (i := 73) (by decide +kernel) rfl
theorem seX4_freshenAll : Cond.selects RX4 yX4_freshenAll yX4_freshenAll ∈ lw_g := lg_2 (i := 74) (by decide +kernel) rfl
theorem imX9_countWords : Cond.instanceMethod yX9_countWords ∈ lw_g := lg_2 (i := 164) (by decide +kernel) rfl
theorem seX9_countWords : Cond.selects RX9 yX9_countWords yX9_countWords ∈ lw_g := lg_0 (i := 9) (by decide +kernel) rfl
theorem imX9_wealth : Cond.instanceMethod yX9_wealth ∈ lw_g := lg_4 (i := 129) (by decide +kernel) rfl
theorem seX9_wealth : Cond.selects RX9 yX9_wealth yX9_wealth ∈ lw_g := lg_4 (i := 130) (by decide +kernel) rfl
theorem smL_wealth : Cond.static yL_wealth ∈ lw_g := lg_4 (i := 126) (by decide +kernel) rfl
theorem imX10_wealthOf : Cond.instanceMethod yX10_wealthOf ∈ lw_g := lg_7 (i := 66) (by decide +kernel) rfl
theorem seX10_wealthOf : Cond.selects RX10 yX10_wealthOf yX10_wealthOf ∈ lw_g := lg_0 (i := 53) (by decide +kernel) rfl
theorem imX10_wealth : Cond.instanceMethod yX10_wealth ∈ lw_g := lg_7 (i := 61) (by decide +kernel) rfl
theorem seX10_wealth : Cond.selects RX10 yX10_wealth yX10_wealth ∈ lw_g := lg_7 (i := 62) (by decide +kernel) rfl
theorem imX9_countAlike : Cond.instanceMethod yX9_countAlike ∈ lw_g := lg_2 (i := 169) (by decide +kernel) rfl
theorem seX9_countAlike : Cond.selects RX9 yX9_countAlike yX9_countAlike ∈ lw_g := lg_0 (i := 10) (by decide +kernel) rfl
theorem imX9_alike : Cond.instanceMethod yX9_alike ∈ lw_g := lg_4 (i := 136) (by decide +kernel) rfl
theorem seX9_alike : Cond.selects RX9 yX9_alike yX9_alike ∈ lw_g := lg_4 (i := 137) (by decide +kernel) rfl
theorem smL_alike : Cond.static yL_alike ∈ lw_g := lg_4 (i := 133) (by decide +kernel) rfl
theorem imX10_alikeIn : Cond.instanceMethod yX10_alikeIn ∈ lw_g := lg_7 (i := 74) (by decide +kernel) rfl
theorem seX10_alikeIn : Cond.selects RX10 yX10_alikeIn yX10_alikeIn ∈ lw_g := lg_0 (i := 54) (by decide +kernel) rfl
theorem imX10_alike : Cond.instanceMethod yX10_alike ∈ lw_g := lg_7 (i := 69) (by decide +kernel) rfl
theorem seX10_alike : Cond.selects RX10 yX10_alike yX10_alike ∈ lw_g := lg_7 (i := 70) (by decide +kernel) rfl
theorem imX9_collectSounds : Cond.instanceMethod yX9_collectSounds ∈ lw_g := lg_2 (i := 177) (by decide +kernel) rfl
theorem seX9_collectSounds : Cond.selects RX9 yX9_collectSounds yX9_collectSounds ∈ lw_g := lg_0 (i := 11) (by decide +kernel) rfl
theorem imX9_soundsOf : Cond.instanceMethod yX9_soundsOf ∈ lw_g := lg_4 (i := 143) (by decide +kernel) rfl
theorem seX9_soundsOf : Cond.selects RX9 yX9_soundsOf yX9_soundsOf ∈ lw_g := lg_4 (i := 144) (by decide +kernel) rfl
theorem smL_soundsOf : Cond.static yL_soundsOf ∈ lw_g := lg_4 (i := 140) (by decide +kernel) rfl
theorem imX10_soundsIn : Cond.instanceMethod yX10_soundsIn ∈ lw_g := lg_7 (i := 82) (by decide +kernel) rfl
theorem seX10_soundsIn : Cond.selects RX10 yX10_soundsIn yX10_soundsIn ∈ lw_g := lg_0 (i := 55) (by decide +kernel) rfl
theorem imX10_soundsOf : Cond.instanceMethod yX10_soundsOf ∈ lw_g := lg_7 (i := 77) (by decide +kernel) rfl
theorem seX10_soundsOf : Cond.selects RX10 yX10_soundsOf yX10_soundsOf ∈ lw_g := lg_7 (i := 78) (by decide +kernel) rfl
theorem imX4_bothHave : Cond.instanceMethod yX4_bothHave ∈ lw_g := lg_2 (i := 197) (by decide +kernel) rfl
theorem seX4_bothHave : Cond.selects RX4 yX4_bothHave yX4_bothHave ∈ lw_g := lg_2 (i := 198) (by decide +kernel) rfl
theorem smX0_spellOut : Cond.static yX0_spellOut ∈ lw_g := lg_2 (i := 205) (by decide +kernel) rfl
theorem imX0_pairFrom : Cond.instanceMethod yX0_pairFrom ∈ lw_g := lg_2 (i := 216) (by decide +kernel) rfl
theorem seX0_pairFrom : Cond.selects RX0 yX0_pairFrom yX0_pairFrom ∈ lw_g := lg_0 (i := 16) (by decide +kernel) rfl
theorem imX0_leastFrom : Cond.instanceMethod yX0_leastFrom ∈ lw_g := lg_2 (i := 212) (by decide +kernel) rfl
theorem seX0_leastFrom : Cond.selects RX0 yX0_leastFrom yX0_leastFrom ∈ lw_g := lg_0 (i := 15) (by decide +kernel) rfl
theorem imX0_weigh : Cond.instanceMethod yX0_weigh ∈ lw_g := lg_2 (i := 201) (by decide +kernel) rfl
theorem seX0_weigh : Cond.selects RX0 yX0_weigh yX0_weigh ∈ lw_g := lg_2 (i := 202) (by decide +kernel) rfl
theorem imX9_leastCost : Cond.instanceMethod yX9_leastCost ∈ lw_g := lg_2 (i := 192) (by decide +kernel) rfl
theorem seX9_leastCost : Cond.selects RX9 yX9_leastCost yX9_leastCost ∈ lw_g := lg_0 (i := 14) (by decide +kernel) rfl
theorem imX9_cost : Cond.instanceMethod yX9_cost ∈ lw_g := lg_4 (i := 150) (by decide +kernel) rfl
theorem seX9_cost : Cond.selects RX9 yX9_cost yX9_cost ∈ lw_g := lg_4 (i := 151) (by decide +kernel) rfl
theorem smL_cost : Cond.static yL_cost ∈ lw_g := lg_4 (i := 147) (by decide +kernel) rfl
theorem imX10_areAsked : Cond.instanceMethod yX10_areAsked ∈ lw_g := lg_7 (i := 90) (by decide +kernel) rfl
theorem seX10_areAsked : Cond.selects RX10 yX10_areAsked yX10_areAsked ∈ lw_g := lg_0 (i := 56) (by decide +kernel) rfl
theorem smX10_spread : Cond.static yX10_spread ∈ lw_g := lg_7 (i := 101) (by decide +kernel) rfl
theorem imX10_costOf : Cond.instanceMethod yX10_costOf ∈ lw_g := lg_7 (i := 106) (by decide +kernel) rfl
theorem seX10_costOf : Cond.selects RX10 yX10_costOf yX10_costOf ∈ lw_g := lg_0 (i := 59) (by decide +kernel) rfl
theorem imX10_restAt : Cond.instanceMethod yX10_restAt ∈ lw_g := lg_7 (i := 110) (by decide +kernel) rfl
theorem seX10_restAt : Cond.selects RX10 yX10_restAt yX10_restAt ∈ lw_g := lg_0 (i := 60) (by decide +kernel) rfl
theorem imX10_align : Cond.instanceMethod yX10_align ∈ lw_g := lg_7 (i := 98) (by decide +kernel) rfl
theorem seX10_align : Cond.selects RX10 yX10_align yX10_align ∈ lw_g := lg_0 (i := 58) (by decide +kernel) rfl
theorem imX10_costNow : Cond.instanceMethod yX10_costNow ∈ lw_g := lg_7 (i := 94) (by decide +kernel) rfl
theorem seX10_costNow : Cond.selects RX10 yX10_costNow yX10_costNow ∈ lw_g := lg_0 (i := 57) (by decide +kernel) rfl
theorem imX10_cost : Cond.instanceMethod yX10_cost ∈ lw_g := lg_7 (i := 85) (by decide +kernel) rfl
theorem seX10_cost : Cond.selects RX10 yX10_cost yX10_cost ∈ lw_g := lg_7 (i := 86) (by decide +kernel) rfl
theorem imX0_takesPair : Cond.instanceMethod yX0_takesPair ∈ lw_g := lg_3 (i := 18) (by decide +kernel) rfl
theorem seX0_takesPair : Cond.selects RX0 yX0_takesPair yX0_takesPair ∈ lw_g := lg_0 (i := 21) (by decide +kernel) rfl
theorem imX0_takesFirstAlone : Cond.instanceMethod yX0_takesFirstAlone ∈ lw_g := lg_3 (i := 22) (by decide +kernel) rfl
theorem seX0_takesFirstAlone : Cond.selects RX0 yX0_takesFirstAlone yX0_takesFirstAlone ∈ lw_g := lg_0 (i := 22) (by decide +kernel) rfl
theorem imX0_align : Cond.instanceMethod yX0_align ∈ lw_g := lg_3 (i := 12) (by decide +kernel) rfl
theorem seX0_align : Cond.selects RX0 yX0_align yX0_align ∈ lw_g := lg_3 (i := 13) (by decide +kernel) rfl
theorem imX9_layOut : Cond.instanceMethod yX9_layOut ∈ lw_g := lg_4 (i := 162) (by decide +kernel) rfl
theorem seX9_layOut : Cond.selects RX9 yX9_layOut yX9_layOut ∈ lw_g := lg_0 (i := 33) (by decide +kernel) rfl
theorem imX9_columns : Cond.instanceMethod yX9_columns ∈ lw_g := lg_4 (i := 157) (by decide +kernel) rfl
theorem seX9_columns : Cond.selects RX9 yX9_columns yX9_columns ∈ lw_g := lg_4 (i := 158) (by decide +kernel) rfl
theorem smL_columns : Cond.static yL_columns ∈ lw_g := lg_4 (i := 154) (by decide +kernel) rfl
theorem imX10_columnsNow : Cond.instanceMethod yX10_columnsNow ∈ lw_g := lg_7 (i := 119) (by decide +kernel) rfl
theorem seX10_columnsNow : Cond.selects RX10 yX10_columnsNow yX10_columnsNow ∈ lw_g := lg_0 (i := 61) (by decide +kernel) rfl
theorem imX10_columns : Cond.instanceMethod yX10_columns ∈ lw_g := lg_7 (i := 114) (by decide +kernel) rfl
theorem seX10_columns : Cond.selects RX10 yX10_columns yX10_columns ∈ lw_g := lg_7 (i := 115) (by decide +kernel) rfl
theorem imX0_upperAt : Cond.instanceMethod yX0_upperAt ∈ lw_g := lg_3 (i := 29) (by decide +kernel) rfl
theorem seX0_upperAt : Cond.selects RX0 yX0_upperAt yX0_upperAt ∈ lw_g := lg_3 (i := 30) (by decide +kernel) rfl
theorem imX0_lowerAt : Cond.instanceMethod yX0_lowerAt ∈ lw_g := lg_3 (i := 33) (by decide +kernel) rfl
theorem seX0_lowerAt : Cond.selects RX0 yX0_lowerAt yX0_lowerAt ∈ lw_g := lg_3 (i := 34) (by decide +kernel) rfl
theorem imX9_columnAt : Cond.instanceMethod yX9_columnAt ∈ lw_g := lg_4 (i := 168) (by decide +kernel) rfl
theorem seX9_columnAt : Cond.selects RX9 yX9_columnAt yX9_columnAt ∈ lw_g := lg_4 (i := 169) (by decide +kernel) rfl
theorem smL_columnAt : Cond.static yL_columnAt ∈ lw_g := lg_4 (i := 165) (by decide +kernel) rfl
theorem imX10_columnAt : Cond.instanceMethod yX10_columnAt ∈ lw_g := lg_7 (i := 122) (by decide +kernel) rfl
theorem seX10_columnAt : Cond.selects RX10 yX10_columnAt yX10_columnAt ∈ lw_g := lg_7 (i := 123) (by decide +kernel) rfl
theorem smX9_isSoundOrNone : Cond.static yX9_isSoundOrNone ∈ lw_g := lg_4 (i := 179) (by decide +kernel) rfl
theorem smX9_columnSign : Cond.static yX9_columnSign ∈ lw_g := lg_4 (i := 182) (by decide +kernel) rfl
theorem imX7_clear : Cond.instanceMethod yX7_clear ∈ lw_g := lg_3 (i := 3) (by decide +kernel) rfl
theorem seX7_clear : Cond.selects RX7 yX7_clear yX7_clear ∈ lw_g := lg_3 (i := 4) (by decide +kernel) rfl
theorem imX4_areKin : Cond.instanceMethod yX4_areKin ∈ lw_g := lg_2 (i := 231) (by decide +kernel) rfl
theorem seX4_areKin : Cond.selects RX4 yX4_areKin yX4_areKin ∈ lw_g := lg_2 (i := 232) (by decide +kernel) rfl
theorem imX7_add : Cond.instanceMethod yX7_add ∈ lw_g := lg_3 (i := 8) (by decide +kernel) rfl
theorem seX7_add : Cond.selects RX7 yX7_add yX7_add ∈ lw_g := lg_3 (i := 9) (by decide +kernel) rfl
theorem imX9_collectAnswers : Cond.instanceMethod yX9_collectAnswers ∈ lw_g := lg_4 (i := 186) (by decide +kernel) rfl
theorem seX9_collectAnswers : Cond.selects RX9 yX9_collectAnswers yX9_collectAnswers ∈ lw_g := lg_0 (i := 34) (by decide +kernel) rfl
theorem imX7_countOf : Cond.instanceMethod yX7_countOf ∈ lw_g := lg_4 (i := 189) (by decide +kernel) rfl
theorem seX7_countOf : Cond.selects RX7 yX7_countOf yX7_countOf ∈ lw_g := lg_4 (i := 190) (by decide +kernel) rfl
theorem imX9_answers : Cond.instanceMethod yX9_answers ∈ lw_g := lg_4 (i := 175) (by decide +kernel) rfl
theorem seX9_answers : Cond.selects RX9 yX9_answers yX9_answers ∈ lw_g := lg_4 (i := 176) (by decide +kernel) rfl
theorem smL_answers : Cond.static yL_answers ∈ lw_g := lg_4 (i := 172) (by decide +kernel) rfl
theorem imX10_areKin : Cond.instanceMethod yX10_areKin ∈ lw_g := lg_7 (i := 135) (by decide +kernel) rfl
theorem seX10_areKin : Cond.selects RX10 yX10_areKin yX10_areKin ∈ lw_g := lg_0 (i := 63) (by decide +kernel) rfl
theorem imX10_answersNow : Cond.instanceMethod yX10_answersNow ∈ lw_g := lg_7 (i := 131) (by decide +kernel) rfl
theorem seX10_answersNow : Cond.selects RX10 yX10_answersNow yX10_answersNow ∈ lw_g := lg_0 (i := 62) (by decide +kernel) rfl
theorem imX10_answers : Cond.instanceMethod yX10_answers ∈ lw_g := lg_7 (i := 126) (by decide +kernel) rfl
theorem seX10_answers : Cond.selects RX10 yX10_answers yX10_answers ∈ lw_g := lg_7 (i := 127) (by decide +kernel) rfl
theorem imX7_winner : Cond.instanceMethod yX7_winner ∈ lw_g := lg_3 (i := 41) (by decide +kernel) rfl
theorem seX7_winner : Cond.selects RX7 yX7_winner yX7_winner ∈ lw_g := lg_3 (i := 42) (by decide +kernel) rfl
theorem imX9_mainAnswer : Cond.instanceMethod yX9_mainAnswer ∈ lw_g := lg_4 (i := 196) (by decide +kernel) rfl
theorem seX9_mainAnswer : Cond.selects RX9 yX9_mainAnswer yX9_mainAnswer ∈ lw_g := lg_4 (i := 197) (by decide +kernel) rfl
theorem smL_mainAnswer : Cond.static yL_mainAnswer ∈ lw_g := lg_4 (i := 193) (by decide +kernel) rfl
theorem imX10_mainAnswer : Cond.instanceMethod yX10_mainAnswer ∈ lw_g := lg_7 (i := 138) (by decide +kernel) rfl
theorem seX10_mainAnswer : Cond.selects RX10 yX10_mainAnswer yX10_mainAnswer ∈ lw_g := lg_7 (i := 139) (by decide +kernel) rfl
theorem imX9_distanceOf : Cond.instanceMethod yX9_distanceOf ∈ lw_g := lg_2 (i := 188) (by decide +kernel) rfl
theorem seX9_distanceOf : Cond.selects RX9 yX9_distanceOf yX9_distanceOf ∈ lw_g := lg_0 (i := 13) (by decide +kernel) rfl
theorem imX9_far : Cond.instanceMethod yX9_far ∈ lw_g := lg_4 (i := 203) (by decide +kernel) rfl
theorem seX9_far : Cond.selects RX9 yX9_far yX9_far ∈ lw_g := lg_4 (i := 204) (by decide +kernel) rfl
theorem smL_far : Cond.static yL_far ∈ lw_g := lg_4 (i := 200) (by decide +kernel) rfl
theorem imX10_costs : Cond.instanceMethod yX10_costs ∈ lw_g := lg_7 (i := 147) (by decide +kernel) rfl
theorem seX10_costs : Cond.selects RX10 yX10_costs yX10_costs ∈ lw_g := lg_0 (i := 64) (by decide +kernel) rfl
theorem imX10_shared : Cond.instanceMethod yX10_shared ∈ lw_g := lg_7 (i := 156) (by decide +kernel) rfl
theorem seX10_shared : Cond.selects RX10 yX10_shared yX10_shared ∈ lw_g := lg_0 (i := 66) (by decide +kernel) rfl
theorem imX10_farBy : Cond.instanceMethod yX10_farBy ∈ lw_g := lg_7 (i := 151) (by decide +kernel) rfl
theorem seX10_farBy : Cond.selects RX10 yX10_farBy yX10_farBy ∈ lw_g := lg_0 (i := 65) (by decide +kernel) rfl
theorem imX10_far : Cond.instanceMethod yX10_far ∈ lw_g := lg_7 (i := 142) (by decide +kernel) rfl
theorem seX10_far : Cond.selects RX10 yX10_far yX10_far ∈ lw_g := lg_7 (i := 143) (by decide +kernel) rfl
theorem imX9_nearestTo : Cond.instanceMethod yX9_nearestTo ∈ lw_g := lg_2 (i := 183) (by decide +kernel) rfl
theorem seX9_nearestTo : Cond.selects RX9 yX9_nearestTo yX9_nearestTo ∈ lw_g := lg_0 (i := 12) (by decide +kernel) rfl
theorem imX9_nearest : Cond.instanceMethod yX9_nearest ∈ lw_g := lg_4 (i := 210) (by decide +kernel) rfl
theorem seX9_nearest : Cond.selects RX9 yX9_nearest yX9_nearest ∈ lw_g := lg_4 (i := 211) (by decide +kernel) rfl
theorem smL_nearest : Cond.static yL_nearest ∈ lw_g := lg_4 (i := 207) (by decide +kernel) rfl
theorem imX10_nearestBy : Cond.instanceMethod yX10_nearestBy ∈ lw_g := lg_7 (i := 164) (by decide +kernel) rfl
theorem seX10_nearestBy : Cond.selects RX10 yX10_nearestBy yX10_nearestBy ∈ lw_g := lg_0 (i := 67) (by decide +kernel) rfl
theorem imX10_nearest : Cond.instanceMethod yX10_nearest ∈ lw_g := lg_7 (i := 159) (by decide +kernel) rfl
theorem seX10_nearest : Cond.selects RX10 yX10_nearest yX10_nearest ∈ lw_g := lg_7 (i := 160) (by decide +kernel) rfl
theorem imX9_isWitness : Cond.instanceMethod yX9_isWitness ∈ lw_g := lg_2 (i := 228) (by decide +kernel) rfl
theorem seX9_isWitness : Cond.selects RX9 yX9_isWitness yX9_isWitness ∈ lw_g := lg_0 (i := 19) (by decide +kernel) rfl
theorem imX9_openVotes : Cond.instanceMethod yX9_openVotes ∈ lw_g := lg_3 (i := 0) (by decide +kernel) rfl
theorem seX9_openVotes : Cond.selects RX9 yX9_openVotes yX9_openVotes ∈ lw_g := lg_0 (i := 20) (by decide +kernel) rfl
theorem imX9_castVotes : Cond.instanceMethod yX9_castVotes ∈ lw_g := lg_3 (i := 26) (by decide +kernel) rfl
theorem seX9_castVotes : Cond.selects RX9 yX9_castVotes yX9_castVotes ∈ lw_g := lg_0 (i := 23) (by decide +kernel) rfl
theorem imX9_elected : Cond.instanceMethod yX9_elected ∈ lw_g := lg_3 (i := 38) (by decide +kernel) rfl
theorem seX9_elected : Cond.selects RX9 yX9_elected yX9_elected ∈ lw_g := lg_0 (i := 24) (by decide +kernel) rfl
theorem imX9_recall : Cond.instanceMethod yX9_recall ∈ lw_g := lg_2 (i := 224) (by decide +kernel) rfl
theorem seX9_recall : Cond.selects RX9 yX9_recall yX9_recall ∈ lw_g := lg_0 (i := 18) (by decide +kernel) rfl
theorem imX9_recalled : Cond.instanceMethod yX9_recalled ∈ lw_g := lg_4 (i := 217) (by decide +kernel) rfl
theorem seX9_recalled : Cond.selects RX9 yX9_recalled yX9_recalled ∈ lw_g := lg_4 (i := 218) (by decide +kernel) rfl
theorem smL_recalled : Cond.static yL_recalled ∈ lw_g := lg_4 (i := 214) (by decide +kernel) rfl
theorem imX10_recalledNow : Cond.instanceMethod yX10_recalledNow ∈ lw_g := lg_7 (i := 172) (by decide +kernel) rfl
theorem seX10_recalledNow : Cond.selects RX10 yX10_recalledNow yX10_recalledNow ∈ lw_g := lg_0 (i := 68) (by decide +kernel) rfl
theorem imX10_recalled : Cond.instanceMethod yX10_recalled ∈ lw_g := lg_7 (i := 167) (by decide +kernel) rfl
theorem seX10_recalled : Cond.selects RX10 yX10_recalled yX10_recalled ∈ lw_g := lg_7 (i := 168) (by decide +kernel) rfl
theorem imX9_recalledAt : Cond.instanceMethod yX9_recalledAt ∈ lw_g := lg_4 (i := 224) (by decide +kernel) rfl
theorem seX9_recalledAt : Cond.selects RX9 yX9_recalledAt yX9_recalledAt ∈ lw_g := lg_4 (i := 225) (by decide +kernel) rfl
theorem smL_recalledAt : Cond.static yL_recalledAt ∈ lw_g := lg_4 (i := 221) (by decide +kernel) rfl
theorem imX10_recalledAt : Cond.instanceMethod yX10_recalledAt ∈ lw_g := lg_7 (i := 175) (by decide +kernel) rfl
theorem seX10_recalledAt : Cond.selects RX10 yX10_recalledAt yX10_recalledAt ∈ lw_g := lg_7 (i := 176) (by decide +kernel) rfl
theorem imX9_countRecalledWell : Cond.instanceMethod yX9_countRecalledWell ∈ lw_g := lg_2 (i := 220) (by decide +kernel) rfl
theorem seX9_countRecalledWell : Cond.selects RX9 yX9_countRecalledWell yX9_countRecalledWell ∈ lw_g := lg_0 (i := 17) (by decide +kernel) rfl
theorem imX9_recalledWell : Cond.instanceMethod yX9_recalledWell ∈ lw_g := lg_4 (i := 231) (by decide +kernel) rfl
theorem seX9_recalledWell : Cond.selects RX9 yX9_recalledWell yX9_recalledWell ∈ lw_g := lg_4 (i := 232) (by decide +kernel) rfl
theorem smL_recalledWell : Cond.static yL_recalledWell ∈ lw_g := lg_4 (i := 228) (by decide +kernel) rfl
theorem imX10_wellNow : Cond.instanceMethod yX10_wellNow ∈ lw_g := lg_7 (i := 184) (by decide +kernel) rfl
theorem seX10_wellNow : Cond.selects RX10 yX10_wellNow yX10_wellNow ∈ lw_g := lg_0 (i := 69) (by decide +kernel) rfl
theorem imX10_recalledWell : Cond.instanceMethod yX10_recalledWell ∈ lw_g := lg_7 (i := 179) (by decide +kernel) rfl
theorem seX10_recalledWell : Cond.selects RX10 yX10_recalledWell yX10_recalledWell ∈ lw_g := lg_7 (i := 180) (by decide +kernel) rfl
theorem imX9_isLaw : Cond.instanceMethod yX9_isLaw ∈ lw_g := lg_5 (i := 3) (by decide +kernel) rfl
theorem seX9_isLaw : Cond.selects RX9 yX9_isLaw yX9_isLaw ∈ lw_g := lg_0 (i := 35) (by decide +kernel) rfl
theorem imX2_lackingLaw : Cond.instanceMethod yX2_lackingLaw ∈ lw_g := lg_5 (i := 10) (by decide +kernel) rfl
theorem seX2_lackingLaw : Cond.selects RX2 yX2_lackingLaw yX2_lackingLaw ∈ lw_g := lg_5 (i := 11) (by decide +kernel) rfl
theorem imJx4a65c_rangeCheckForAdd_d00df : Cond.instanceMethod yJx4a65c_rangeCheckForAdd_d00df ∈ lw_g := lg_5 (i := 25) (by decide +kernel) rfl
theorem seJx4a65c_rangeCheckForAdd_d00df : Cond.selects RJx4a65c yJx4a65c_rangeCheckForAdd_d00df yJx4a65c_rangeCheckForAdd_d00df ∈ lw_g := lg_0 (i := 36) (by decide +kernel) rfl
theorem imJx4a65c_add_7a177 : Cond.instanceMethod yJx4a65c_add_7a177 ∈ lw_g := lg_5 (i := 20) (by decide +kernel) rfl
theorem seJx4a65c_add_7a177 : Cond.selects RJx4a65c yJx4a65c_add_7a177 yJx4a65c_add_7a177 ∈ lw_g := lg_5 (i := 21) (by decide +kernel) rfl
theorem imX2_swappingLaw : Cond.instanceMethod yX2_swappingLaw ∈ lw_g := lg_5 (i := 6) (by decide +kernel) rfl
theorem seX2_swappingLaw : Cond.selects RX2 yX2_swappingLaw yX2_swappingLaw ∈ lw_g := lg_5 (i := 7) (by decide +kernel) rfl
theorem imX1_replacing : Cond.instanceMethod yX1_replacing ∈ lw_g := lg_6 (i := 29) (by decide +kernel) rfl
theorem seX1_replacing : Cond.selects RX1 yX1_replacing yX1_replacing ∈ lw_g := lg_6 (i := 30) (by decide +kernel) rfl
theorem imX4_tellOf : Cond.instanceMethod yX4_tellOf ∈ lw_g := lg_6 (i := 41) (by decide +kernel) rfl
theorem seX4_tellOf : Cond.selects RX4 yX4_tellOf yX4_tellOf ∈ lw_g := lg_6 (i := 42) (by decide +kernel) rfl
theorem imX9_suppose : Cond.instanceMethod yX9_suppose ∈ lw_g := lg_6 (i := 26) (by decide +kernel) rfl
theorem seX9_suppose : Cond.selects RX9 yX9_suppose yX9_suppose ∈ lw_g := lg_0 (i := 38) (by decide +kernel) rfl
theorem imX9_differs : Cond.instanceMethod yX9_differs ∈ lw_g := lg_3 (i := 62) (by decide +kernel) rfl
theorem seX9_differs : Cond.selects RX9 yX9_differs yX9_differs ∈ lw_g := lg_0 (i := 26) (by decide +kernel) rfl
theorem imX9_countDifferent : Cond.instanceMethod yX9_countDifferent ∈ lw_g := lg_6 (i := 46) (by decide +kernel) rfl
theorem seX9_countDifferent : Cond.selects RX9 yX9_countDifferent yX9_countDifferent ∈ lw_g := lg_0 (i := 39) (by decide +kernel) rfl
theorem imX9_swapped : Cond.instanceMethod yX9_swapped ∈ lw_g := lg_4 (i := 238) (by decide +kernel) rfl
theorem seX9_swapped : Cond.selects RX9 yX9_swapped yX9_swapped ∈ lw_g := lg_4 (i := 239) (by decide +kernel) rfl
theorem smL_swapped : Cond.static yL_swapped ∈ lw_g := lg_4 (i := 235) (by decide +kernel) rfl
theorem imX10_told : Cond.instanceMethod yX10_told ∈ lw_g := lg_7 (i := 192) (by decide +kernel) rfl
theorem seX10_told : Cond.selects RX10 yX10_told yX10_told ∈ lw_g := lg_0 (i := 70) (by decide +kernel) rfl
theorem smX10_swap : Cond.static yX10_swap ∈ lw_g := lg_7 (i := 200) (by decide +kernel) rfl
theorem imX10_swapLaws : Cond.instanceMethod yX10_swapLaws ∈ lw_g := lg_7 (i := 197) (by decide +kernel) rfl
theorem seX10_swapLaws : Cond.selects RX10 yX10_swapLaws yX10_swapLaws ∈ lw_g := lg_0 (i := 71) (by decide +kernel) rfl
theorem imX10_unlike : Cond.instanceMethod yX10_unlike ∈ lw_g := lg_7 (i := 204) (by decide +kernel) rfl
theorem seX10_unlike : Cond.selects RX10 yX10_unlike yX10_unlike ∈ lw_g := lg_0 (i := 72) (by decide +kernel) rfl
theorem imX10_swapped : Cond.instanceMethod yX10_swapped ∈ lw_g := lg_7 (i := 187) (by decide +kernel) rfl
theorem seX10_swapped : Cond.selects RX10 yX10_swapped yX10_swapped ∈ lw_g := lg_7 (i := 188) (by decide +kernel) rfl
theorem imX9_without : Cond.instanceMethod yX9_without ∈ lw_g := lg_6 (i := 52) (by decide +kernel) rfl
theorem seX9_without : Cond.selects RX9 yX9_without yX9_without ∈ lw_g := lg_6 (i := 53) (by decide +kernel) rfl
theorem smL_without : Cond.static yL_without ∈ lw_g := lg_6 (i := 49) (by decide +kernel) rfl
theorem imX10_without : Cond.instanceMethod yX10_without ∈ lw_g := lg_7 (i := 207) (by decide +kernel) rfl
theorem seX10_without : Cond.selects RX10 yX10_without yX10_without ∈ lw_g := lg_7 (i := 208) (by decide +kernel) rfl
theorem imX1_lackingLoan : Cond.instanceMethod yX1_lackingLoan ∈ lw_g := lg_6 (i := 64) (by decide +kernel) rfl
theorem seX1_lackingLoan : Cond.selects RX1 yX1_lackingLoan yX1_lackingLoan ∈ lw_g := lg_6 (i := 65) (by decide +kernel) rfl
theorem imX9_withoutLoan : Cond.instanceMethod yX9_withoutLoan ∈ lw_g := lg_6 (i := 60) (by decide +kernel) rfl
theorem seX9_withoutLoan : Cond.selects RX9 yX9_withoutLoan yX9_withoutLoan ∈ lw_g := lg_6 (i := 61) (by decide +kernel) rfl
theorem smL_withoutLoan : Cond.static yL_withoutLoan ∈ lw_g := lg_6 (i := 57) (by decide +kernel) rfl
theorem imX10_withoutLoan : Cond.instanceMethod yX10_withoutLoan ∈ lw_g := lg_7 (i := 211) (by decide +kernel) rfl
theorem seX10_withoutLoan : Cond.selects RX10 yX10_withoutLoan yX10_withoutLoan ∈ lw_g := lg_7 (i := 212) (by decide +kernel) rfl
theorem imX9_looksLent : Cond.instanceMethod yX9_looksLent ∈ lw_g := lg_6 (i := 72) (by decide +kernel) rfl
theorem seX9_looksLent : Cond.selects RX9 yX9_looksLent yX9_looksLent ∈ lw_g := lg_6 (i := 73) (by decide +kernel) rfl
theorem smL_looksLent : Cond.static yL_looksLent ∈ lw_g := lg_6 (i := 69) (by decide +kernel) rfl
theorem imX10_unlent : Cond.instanceMethod yX10_unlent ∈ lw_g := lg_7 (i := 220) (by decide +kernel) rfl
theorem seX10_unlent : Cond.selects RX10 yX10_unlent yX10_unlent ∈ lw_g := lg_0 (i := 73) (by decide +kernel) rfl
theorem imX10_looksLent : Cond.instanceMethod yX10_looksLent ∈ lw_g := lg_7 (i := 215) (by decide +kernel) rfl
theorem seX10_looksLent : Cond.selects RX10 yX10_looksLent yX10_looksLent ∈ lw_g := lg_7 (i := 216) (by decide +kernel) rfl
theorem smX9_mixed : Cond.static yX9_mixed ∈ lw_g := lg_2 (i := 154) (by decide +kernel) rfl
theorem smX9_mixSounds : Cond.static yX9_mixSounds ∈ lw_g := lg_3 (i := 53) (by decide +kernel) rfl
theorem imX9_mixWord : Cond.instanceMethod yX9_mixWord ∈ lw_g := lg_3 (i := 50) (by decide +kernel) rfl
theorem seX9_mixWord : Cond.selects RX9 yX9_mixWord yX9_mixWord ∈ lw_g := lg_0 (i := 25) (by decide +kernel) rfl
theorem imX9_mixCosts : Cond.instanceMethod yX9_mixCosts ∈ lw_g := lg_3 (i := 66) (by decide +kernel) rfl
theorem seX9_mixCosts : Cond.selects RX9 yX9_mixCosts yX9_mixCosts ∈ lw_g := lg_0 (i := 27) (by decide +kernel) rfl
theorem imX9_digest : Cond.instanceMethod yX9_digest ∈ lw_g := lg_2 (i := 69) (by decide +kernel) rfl
theorem seX9_digest : Cond.selects RX9 yX9_digest yX9_digest ∈ lw_g := lg_2 (i := 70) (by decide +kernel) rfl
theorem imX10_digest : Cond.instanceMethod yX10_digest ∈ lw_g := lg_7 (i := 223) (by decide +kernel) rfl
theorem seX10_digest : Cond.selects RX10 yX10_digest yX10_digest ∈ lw_g := lg_7 (i := 224) (by decide +kernel) rfl
