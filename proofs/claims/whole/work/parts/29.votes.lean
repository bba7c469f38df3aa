/-! ===== votes; features given ===== -/
theorem e_fill {g : Gp} {r n : Nat} {v : Int32} {h : AH} {Q : PQ} (hr : zK h r = (2, n)) (h2r : r ≠ 2) (hn : n < 2 ^ 31) (hq : ∀ h', zK h' = zK h → zR h' = zR h → zL h' = zL h → zN h' = zN h → Kp (fun c => c = r) h h' → (∀ i, i < n → zI h' r i = v) → Q (.inl none) h') : Ev g mJ7_fill_53178 [vR r, vI v] h Q := by
  refine nJ7_fill_53178 ?_
  have lp : ∀ d p h2, p + d = n → zK h2 = zK h → zR h2 = zR h → zL h2 = zL h → zN h2 = zN h → Kp (fun c => c = r) h h2 → (∀ i, i < p → zI h2 r i = v) → Ex g mJ7_fill_53178 5 [vR r, vI v, vI (nI p), vI (nI n)] [] h2 (0, 0) Q := by
    intro d
    induction d with
    | zero =>
      intro p h2 hp ek er el en kp z
      have e : p = n := by omega
      subst e
      refine rJ7_fill_53178_5 ?_
      simp only [bJ7_fill_53178_5, run, Nat.reduceAdd, lg, st1, st2, lkill, lset, fvv, sfv, kind3, cat1, retI, retA, List.length_cons, List.length_nil, true_and, and_true, or_true, true_or, qJ7_fill_53178, show nI p ≤ nI p ↔ True from ⟨fun _ => trivial, fun _ => nI_le (Nat.le_refl _) hn⟩, not_true_eq_false, not_false_eq_true, false_implies, true_and, and_true, tti]
      refine rJ7_fill_53178_20 ?_
      simp only [bJ7_fill_53178_20, run, Nat.reduceAdd, lg, st1, st2, lkill, lset, fvv, sfv, kind3, cat1, retI, retA, List.length_cons, List.length_nil, true_and, and_true, or_true, true_or, qJ7_fill_53178]
      exact hq _ ek er el en kp z
    | succ d ih =>
      intro p h2 hp ek er el en kp z
      refine rJ7_fill_53178_5 ?_
      simp only [bJ7_fill_53178_5, run, Nat.reduceAdd, lg, st1, st2, lkill, lset, fvv, sfv, kind3, cat1, retI, retA, List.length_cons, List.length_nil, true_and, and_true, or_true, true_or, qJ7_fill_53178, show nI n ≤ nI p ↔ False from ⟨nI_ge (by omega) hn, False.elim⟩, ek, hr, nI_clamp (show p < 2 ^ 31 by omega), nI_1, not_true_eq_false, not_false_eq_true, false_implies, true_and, and_true, tti]
      refine ⟨vp_in_nI (by omega) hn, ih (p + 1) _ (by omega) ek er el en (kp.tr (Kp.sI rfl)) fun i hi => ?_⟩
      rw [zI_sI]
      by_cases e : i = p
      · rw [e, up1_s]
      · rw [up1_n _ _ e]; exact z i (by omega)
  refine rJ7_fill_53178_0 ?_
  simp only [bJ7_fill_53178_0, run, Nat.reduceAdd, lg, st1, st2, lkill, lset, fvv, sfv, kind3, cat1, retI, retA, List.length_cons, List.length_nil, true_and, and_true, or_true, true_or, qJ7_fill_53178, alen, if_neg h2r, hr]
  refine ⟨by decide, ?_⟩
  rw [show (0 : Int32) = nI 0 from rfl]
  exact lp n 0 h (Nat.zero_add _) rfl rfl rfl rfl Kp.rf fun i hi => absurd hi (Nat.not_lt_zero _)
def VtS (h : AH) : Prop := zK h 65 = (7, 10) ∧ ∀ i, i < 10 → zR h 65 i = 66 + 2 * i ∧ zK h (66 + 2 * i) = (1, 8) ∧ zR h (66 + 2 * i) 0 = 67 + 2 * i ∧ zK h (67 + 2 * i) = (2, 17)
def VtR (h : AH) (i : Nat) (c : Nat → Nat) : Prop := ∀ s, s < 17 → zI h (67 + 2 * i) s = nI (c s)
theorem e_clear {g : Gp} {i : Nat} {h : AH} {Q : PQ} (hv : VtS h) (hi : i < 10) (hq : ∀ h', zK h' = zK h → zR h' = zR h → zL h' = zL h → Kp (fun c => c = 67 + 2 * i) h h' → VtR h' i (fun _ => 0) → Q (.inl none) h') : Ev g mX7_clear [vR (66 + 2 * i)] h Q := by
  obtain ⟨v1, v2, v3, v4⟩ := hv.2 i hi
  refine nX7_clear ?_
  refine rX7_clear_0 ?_
  simp only [bX7_clear_0, run, Nat.reduceAdd, lg, st1, st2, lkill, lset, fvv, sfv, kind3, cat1, retI, retA, List.length_cons, List.length_nil, true_and, and_true, or_true, true_or, qX7_clear, v2, v3, not_true_eq_false, not_false_eq_true, false_implies, true_and, and_true, tti]
  refine sX7_clear_5 (e_fill v4 (by omega) (by decide) fun h' k r l _ kp z => ?_)
  simp only [cont, Option.toList, List.cons_append, List.nil_append]
  refine rX7_clear_8 ?_
  simp only [bX7_clear_8, run, Nat.reduceAdd, lg, st1, st2, lkill, lset, fvv, sfv, kind3, cat1, retI, retA, List.length_cons, List.length_nil, true_and, and_true, or_true, true_or, qX7_clear]
  exact hq h' k r l kp z
theorem e_vadd {g : Gp} {i s : Nat} {c : Nat → Nat} {h : AH} {Q : PQ} (hv : VtS h) (hi : i < 10) (hs : s < 17) (hc : VtR h i c) (hq : Q (.inl none) (sI h (67 + 2 * i) s (nI (c s + 1)))) : Ev g mX7_add [vR (66 + 2 * i), vI (nI s)] h Q := by
  obtain ⟨v1, v2, v3, v4⟩ := hv.2 i hi
  refine nX7_add ?_
  refine rX7_add_0 ?_
  simp only [bX7_add_0, run, Nat.reduceAdd, lg, st1, st2, lkill, lset, fvv, sfv, kind3, cat1, retI, retA, List.length_cons, List.length_nil, true_and, and_true, or_true, true_or, qX7_add, v2, v3, v4, nI_clamp (show s < 2 ^ 31 by omega), hc s hs, nI_1, not_true_eq_false, not_false_eq_true, false_implies, true_and, and_true, tti]
  exact ⟨vp_in_nI (by omega) (by omega), vp_in_nI (by omega) (by omega), hq⟩
theorem e_countOf {g : Gp} {i s : Nat} {c : Nat → Nat} {h : AH} {Q : PQ} (hv : VtS h) (hi : i < 10) (hs : s < 17) (hc : VtR h i c) (hq : Q (.inl (some (vI (nI (c s))))) h) : Ev g mX7_countOf [vR (66 + 2 * i), vI (nI s)] h Q := by
  obtain ⟨v1, v2, v3, v4⟩ := hv.2 i hi
  refine nX7_countOf ?_
  refine rX7_countOf_0 ?_
  simp only [bX7_countOf_0, run, Nat.reduceAdd, lg, st1, st2, lkill, lset, fvv, sfv, kind3, cat1, retI, retA, List.length_cons, List.length_nil, true_and, and_true, or_true, true_or, qX7_countOf, v2, v3, v4, nI_clamp (show s < 2 ^ 31 by omega), hc s hs, not_true_eq_false, not_false_eq_true, false_implies, true_and, and_true, tti]
  exact ⟨vp_in_nI (by omega) (by omega), hq⟩
/-- the first with the most votes (0: none, n + 1: the sign n), and how many -/
def wn (c : Nat → Nat) : Nat → Nat × Nat
  | 0 => (0, 0)
  | n + 1 => if (wn c n).2 < c n then (n + 1, c n) else wn c n
theorem wn_le (c : Nat → Nat) : ∀ n, (wn c n).1 ≤ n
  | 0 => Nat.le_refl _
  | n + 1 => by
    have := wn_le c n
    unfold wn
    split
    · exact Nat.le_refl _
    · omega
theorem wn_b {c : Nat → Nat} {B : Nat} (hc : ∀ s, c s ≤ B) : ∀ n, (wn c n).2 ≤ B
  | 0 => Nat.zero_le _
  | n + 1 => by
    unfold wn
    split
    · exact hc n
    · exact wn_b hc n
theorem e_winner {g : Gp} {i : Nat} {c : Nat → Nat} {h : AH} {Q : PQ} (hv : VtS h) (hi : i < 10) (hc : VtR h i c) (hb : ∀ s, c s ≤ 1000000) (hq : Q (.inl (some (vI (bI (wn c 17).1)))) h) : Ev g mX7_winner [vR (66 + 2 * i)] h Q := by
  obtain ⟨v1, v2, v3, v4⟩ := hv.2 i hi
  refine nX7_winner ?_
  have ne2 : ¬ 67 + 2 * i = 2 := by omega
  have lp : ∀ d s, s + d = 17 → Ex g mX7_winner 6 [vR (66 + 2 * i), vI (bI (wn c s).1), vI (nI (wn c s).2), vI (nI s)] [] h (0, 0) Q := by
    intro d
    induction d with
    | zero =>
      intro s hs
      have e : s = 17 := by omega
      subst e
      refine rX7_winner_6 ?_
      simp only [bX7_winner_6, run, Nat.reduceAdd, lg, st1, st2, lkill, lset, fvv, sfv, kind3, cat1, retI, retA, List.length_cons, List.length_nil, true_and, and_true, or_true, true_or, qX7_winner, v2, v3, v4, alen, if_neg ne2, show nI 17 ≤ nI 17 ↔ True from ⟨fun _ => trivial, fun _ => by decide⟩, not_true_eq_false, not_false_eq_true, false_implies, true_and, and_true, tti]
      refine ⟨by decide, ?_⟩
      refine rX7_winner_40 ?_
      simp only [bX7_winner_40, run, Nat.reduceAdd, lg, st1, st2, lkill, lset, fvv, sfv, kind3, cat1, retI, retA, List.length_cons, List.length_nil, true_and, and_true, or_true, true_or, qX7_winner]
      exact hq
    | succ d ih =>
      intro s hs
      have z := ih (s + 1) (by omega)
      have b1 := hb s
      have b2 := wn_b hb s
      unfold wn at z
      by_cases hlt : (wn c s).2 < c s
      · rw [if_pos hlt] at z
        refine rX7_winner_6 ?_
        simp only [bX7_winner_6, run, Nat.reduceAdd, lg, st1, st2, lkill, lset, fvv, sfv, kind3, cat1, retI, retA, List.length_cons, List.length_nil, true_and, and_true, or_true, true_or, qX7_winner, v2, v3, v4, alen, if_neg ne2, show nI 17 ≤ nI s ↔ False from ⟨nI_ge (by omega) (by omega), False.elim⟩, nI_clamp (show s < 2 ^ 31 by omega), hc s (by omega), show nI (c s) ≤ nI (wn c s).2 ↔ False from ⟨nI_ge hlt (by omega), False.elim⟩, nI_1, not_true_eq_false, not_false_eq_true, false_implies, true_and, and_true, tti]
        rw [bI_s] at z
        refine ⟨by decide, vp_in_nI (by omega) (by omega), vp_in_nI (by omega) (by omega), z⟩
      · rw [if_neg hlt] at z
        refine rX7_winner_6 ?_
        simp only [bX7_winner_6, run, Nat.reduceAdd, lg, st1, st2, lkill, lset, fvv, sfv, kind3, cat1, retI, retA, List.length_cons, List.length_nil, true_and, and_true, or_true, true_or, qX7_winner, v2, v3, v4, alen, if_neg ne2, show nI 17 ≤ nI s ↔ False from ⟨nI_ge (by omega) (by omega), False.elim⟩, nI_clamp (show s < 2 ^ 31 by omega), hc s (by omega), show nI (c s) ≤ nI (wn c s).2 ↔ True from ⟨fun _ => trivial, fun _ => nI_le (by omega) (by omega)⟩, not_true_eq_false, not_false_eq_true, false_implies, true_and, and_true, tti]
        refine ⟨by decide, vp_in_nI (by omega) (by omega), ?_⟩
        refine rX7_winner_34 ?_
        simp only [bX7_winner_34, run, Nat.reduceAdd, lg, st1, st2, lkill, lset, fvv, sfv, kind3, cat1, retI, retA, List.length_cons, List.length_nil, true_and, and_true, or_true, true_or, qX7_winner, nI_1]
        exact z
  refine rX7_winner_0 ?_
  simp only [bX7_winner_0, run, Nat.reduceAdd, lg, st1, st2, lkill, lset, fvv, sfv, kind3, cat1, retI, retA, List.length_cons, List.length_nil, true_and, and_true, or_true, true_or, qX7_winner]
  exact lp 17 0 rfl
theorem e_upperAt {g : Gp} {k : Nat} {cs : List (Nat × Nat)} {h : AH} {Q : PQ} (hx : AlS h) (hc : ColR h cs) (hk : k < cs.length) (hl : cs.length ≤ 20) (hq : Q (.inl (some (vI (nI (cs.getD k (0, 0)).1)))) h) : Ev g mX0_upperAt [vR 48, vI (nI k)] h Q := by
  obtain ⟨x1, x2, x3, x4, x5, x6, x7, x8, x9, x10, x11, x12, x13⟩ := hx
  refine nX0_upperAt ?_
  refine rX0_upperAt_0 ?_
  simp only [bX0_upperAt_0, run, Nat.reduceAdd, lg, st1, st2, lkill, lset, fvv, sfv, kind3, cat1, retI, retA, List.length_cons, List.length_nil, true_and, and_true, or_true, true_or, qX0_upperAt, x1, x6, x11, nI_clamp (show k < 2 ^ 31 by omega), (hc k hk).1, not_true_eq_false, not_false_eq_true, false_implies, true_and, and_true, tti]
  exact ⟨vp_in_nI (by omega) (by omega), hq⟩
theorem e_lowerAt {g : Gp} {k : Nat} {cs : List (Nat × Nat)} {h : AH} {Q : PQ} (hx : AlS h) (hc : ColR h cs) (hk : k < cs.length) (hl : cs.length ≤ 20) (hq : Q (.inl (some (vI (nI (cs.getD k (0, 0)).2)))) h) : Ev g mX0_lowerAt [vR 48, vI (nI k)] h Q := by
  obtain ⟨x1, x2, x3, x4, x5, x6, x7, x8, x9, x10, x11, x12, x13⟩ := hx
  refine nX0_lowerAt ?_
  refine rX0_lowerAt_0 ?_
  simp only [bX0_lowerAt_0, run, Nat.reduceAdd, lg, st1, st2, lkill, lset, fvv, sfv, kind3, cat1, retI, retA, List.length_cons, List.length_nil, true_and, and_true, or_true, true_or, qX0_lowerAt, x1, x7, x12, nI_clamp (show k < 2 ^ 31 by omega), (hc k hk).2, not_true_eq_false, not_false_eq_true, false_implies, true_and, and_true, tti]
  exact ⟨vp_in_nI (by omega) (by omega), hq⟩
theorem e_featuresOf {g : Gp} {f : Nat → Nat} {s : Nat} {h : AH} {Q : PQ} (hn : Sn h f) (hs : s < 16) (hq : Q (.inl (some (vI (nI (f s))))) h) : Ev g mX6_featuresOf [vR 5, vI (nI s)] h Q := by
  obtain ⟨n1, n2, n3, n4, n5, n6⟩ := hn
  refine nX6_featuresOf ?_
  refine rX6_featuresOf_0 ?_
  simp only [bX6_featuresOf_0, run, Nat.reduceAdd, lg, st1, st2, lkill, lset, fvv, sfv, kind3, cat1, retI, retA, List.length_cons, List.length_nil, true_and, and_true, or_true, true_or, qX6_featuresOf, n1, n2, n4, nI_clamp (show s < 2 ^ 31 by omega), (n6 s hs).2.2.2.1, not_true_eq_false, not_false_eq_true, false_implies, true_and, and_true, tti]
  exact ⟨vp_in_nI (by omega) (by omega), hq⟩
theorem e_bitCount {g : Gp} {x : Nat} {h : AH} {Q : PQ} (hx : x < 64) (hq : Q (.inl (some (vI (nI (pop 6 x))))) h) : Ev g mJ6_bitCount_0f7a4 [vI (nI x)] h Q := by
  refine nJ6_bitCount_0f7a4 ?_
  refine rJ6_bitCount_0f7a4_0 ?_
  simp only [bJ6_bitCount_0f7a4_0, run, Nat.reduceAdd, lg, st1, st2, lkill, lset, fvv, sfv, kind3, cat1, retI, retA, List.length_cons, List.length_nil, true_and, and_true, or_true, true_or, qJ6_bitCount_0f7a4]
  refine Eq.mp (congrArg (fun v => Q (.inl (some (vI v))) h) ?_) hq
  clear hq
  revert x
  decide +kernel
theorem xor_c (a b : Nat) : a ^^^ b = b ^^^ a := Nat.xor_comm a b
theorem cst_c {f : Nat → Nat} {s t : Nat} : cst f s t = cst f t s := by
  unfold cst
  by_cases e : s = t
  · rw [if_pos e, if_pos e.symm]
  · rw [if_neg e, if_neg fun q => e q.symm, xor_c]
/-- the features with one sound's told anew -/
def fup (f : Nat → Nat) (s v : Nat) : Nat → Nat := fun t => if t = s then v else f t
theorem e_giveFeatures {g : Gp} {f : Nat → Nat} {s v : Nat} {h : AH} {Q : PQ} (hn : Sn h f) (hs : s < 16) (hv : v < 64) (hq : ∀ h', zK h' = zK h → zR h' = zR h → zL h' = zL h → Kp (fun c => 6 ≤ c ∧ c ≤ 23) h h' → Sn h' (fup f s v) → Q (.inl none) h') : Ev g mX6_giveFeatures [vR 5, vI (nI s), vI (nI v)] h Q := by
  obtain ⟨n1, n2, n3, n4, n5, n6⟩ := hn
  refine nX6_giveFeatures ?_
  have ks : (nI s).toNatClampNeg = s := nI_clamp (by omega)
  have vs : vp_in (nI s) 16 := vp_in_nI (by omega) (by omega)
  have fb : ∀ t, t < 16 → fup f s v t < 64 := fun t ht => by
    unfold fup
    split
    · exact hv
    · exact (n6 t ht).2.2.1
  have lp : ∀ d k h2, k + d = 16 → zK h2 = zK h → zR h2 = zR h → zL h2 = zL h → Kp (fun c => 6 ≤ c ∧ c ≤ 23) h h2 → (∀ t, t < 16 → zI h2 6 t = nI (fup f s v t)) → (∀ a t, a < 16 → t < 16 → zI h2 (8 + a) t = nI (if (a = s ∧ t < k) ∨ (t = s ∧ a < k) then cst (fup f s v) a t else cst f a t)) → ∀ y, Ex g mX6_giveFeatures 9 [vR 5, vI (nI s), vI (nI v), vI (nI k), y] [] h2 (0, 0) Q := by
    intro d
    induction d with
    | zero =>
      intro k h2 hk ek er el kp z6 z y
      have e : k = 16 := by omega
      subst e
      refine rX6_giveFeatures_9 ?_
      simp only [bX6_giveFeatures_9, run, Nat.reduceAdd, lg, st1, st2, lkill, lset, fvv, sfv, kind3, cat1, retI, retA, List.length_cons, List.length_nil, true_and, and_true, or_true, true_or, qX6_giveFeatures, show ((16 : Int32) ≤ nI 16) ↔ True from ⟨fun _ => trivial, fun _ => by decide⟩, not_true_eq_false, not_false_eq_true, false_implies, true_and, and_true, tti]
      refine rX6_giveFeatures_65 ?_
      simp only [bX6_giveFeatures_65, run, Nat.reduceAdd, lg, st1, st2, lkill, lset, fvv, sfv, kind3, cat1, retI, retA, List.length_cons, List.length_nil, true_and, and_true, or_true, true_or, qX6_giveFeatures]
      refine hq _ ek er el kp ⟨by rw [ek]; exact n1, by rw [er]; exact n2, by rw [er]; exact n3, by rw [ek]; exact n4, by rw [ek]; exact n5, fun a ha => ⟨by rw [er]; exact (n6 a ha).1, by rw [ek]; exact (n6 a ha).2.1, fb a ha, z6 a ha, fun t ht => ?_⟩⟩
      rw [z a t ha ht]
      by_cases e : (a = s ∧ t < 16) ∨ (t = s ∧ a < 16)
      · rw [if_pos e]
      · rw [if_neg e]
        congr 1
        have ea : a ≠ s := fun q => e (Or.inl ⟨q, ht⟩)
        have et : t ≠ s := fun q => e (Or.inr ⟨q, ha⟩)
        unfold cst fup
        rw [if_neg ea, if_neg et]
    | succ d ih =>
      intro k h2 hk ek er el kp z6 z y
      obtain ⟨c1, c2, c3, c4, c5⟩ := n6 k (by omega)
      obtain ⟨s1, s2, s3, s4, s5⟩ := n6 s hs
      have kk : (nI k).toNatClampNeg = k := nI_clamp (by omega)
      have vk : vp_in (nI k) 16 := vp_in_nI (by omega) (by omega)
      have nle : (16 : Int32) ≤ nI k ↔ False := ⟨nI_ge (b := 16) (by omega) (by omega), False.elim⟩
      have nxt : ∀ b y, b = cst (fup f s v) s k → Ex g mX6_giveFeatures 9 [vR 5, vI (nI s), vI (nI v), vI (nI (k + 1)), y] [] (sI (sI h2 (8 + s) k (nI b)) (8 + k) s (nI b)) (0, 0) Q := by
        intro b y hb
        refine ih (k + 1) (sI (sI h2 (8 + s) k (nI b)) (8 + k) s (nI b)) (by omega) ek er el ((kp.tr (Kp.sI ⟨by omega, by omega⟩)).tr (Kp.sI ⟨by omega, by omega⟩)) (fun t ht => ?_) (fun a t ha ht => ?_) y
        · rw [zI_n (by omega), zI_n (by omega)]
          exact z6 t ht
        · have e2 : zI (sI (sI h2 (8 + s) k (nI b)) (8 + k) s (nI b)) (8 + a) t = if (a = k ∧ t = s) ∨ (a = s ∧ t = k) then nI b else zI h2 (8 + a) t := by
            by_cases e1 : a = k
            · subst e1
              rw [zI_sI]
              by_cases e2 : t = s
              · rw [e2, up1_s, if_pos (Or.inl ⟨rfl, rfl⟩)]
              · rw [up1_n _ _ e2]
                by_cases e3 : a = s
                · subst e3
                  rw [zI_sI, up1_n _ _ e2, if_neg (by omega)]
                · rw [zI_n (by omega), if_neg (by omega)]
            · rw [zI_n (by omega)]
              by_cases e3 : a = s
              · subst e3
                rw [zI_sI]
                by_cases e4 : t = k
                · rw [e4, up1_s, if_pos (Or.inr ⟨rfl, rfl⟩)]
                · rw [up1_n _ _ e4, if_neg (by omega)]
              · rw [zI_n (by omega), if_neg (by omega)]
          rw [e2, z a t ha ht]
          by_cases q : (a = k ∧ t = s) ∨ (a = s ∧ t = k)
          · rw [if_pos q, if_pos (by omega), hb]
            rcases q with ⟨rfl, rfl⟩ | ⟨rfl, rfl⟩
            · rw [cst_c]
            · rfl
          · rw [if_neg q]
            by_cases q2 : (a = s ∧ t < k) ∨ (t = s ∧ a < k)
            · rw [if_pos q2, if_pos (by omega)]
            · rw [if_neg q2, if_neg (by omega)]
      by_cases e : k = s
      · have eb : (0 : Nat) = cst (fup f s v) s k := by rw [e]; exact (if_pos rfl).symm
        have zz := fun y => nxt 0 y eb
        refine rX6_giveFeatures_9 ?_
        simp only [bX6_giveFeatures_9, run, Nat.reduceAdd, lg, st1, st2, lkill, lset, fvv, sfv, kind3, cat1, retI, retA, List.length_cons, List.length_nil, true_and, and_true, or_true, true_or, qX6_giveFeatures, nle, show nI k = nI s ↔ True from ⟨fun _ => trivial, fun _ => by rw [e]⟩, n1, n3, n5, ek, er, kL, kI, kD, kR, rL, rI, rD, iL, iD, iR, lI, lD, lR, s1, s2, c1, c2, ks, kk, nI_1, not_true_eq_false, not_false_eq_true, false_implies, true_and, and_true, tti]
        exact ⟨vs, vk, vk, vs, zz _⟩
      · have eb : 1 + pop 6 (v ^^^ fup f s v k) = cst (fup f s v) s k := by
          unfold cst
          rw [if_neg (fun q => e q.symm)]
          have : fup f s v s = v := if_pos rfl
          rw [this]
        have hx : v ^^^ fup f s v k < 64 := Nat.xor_lt_two_pow (n := 6) hv (fb k (by omega))
        refine rX6_giveFeatures_9 ?_
        simp only [bX6_giveFeatures_9, run, Nat.reduceAdd, lg, st1, st2, lkill, lset, fvv, sfv, kind3, cat1, retI, retA, List.length_cons, List.length_nil, true_and, and_true, or_true, true_or, qX6_giveFeatures, nle, show nI k = nI s ↔ False from ⟨fun q => e ((nI_eq (by omega) (by omega)).mp q), False.elim⟩, not_true_eq_false, not_false_eq_true, false_implies, true_and, and_true, tti]
        refine rX6_giveFeatures_24 ?_
        simp only [bX6_giveFeatures_24, run, Nat.reduceAdd, lg, st1, st2, lkill, lset, fvv, sfv, kind3, cat1, retI, retA, List.length_cons, List.length_nil, true_and, and_true, or_true, true_or, qX6_giveFeatures, n1, n2, n4, ek, er, kk, z6 k (by omega), nx_xor, not_true_eq_false, not_false_eq_true, false_implies, true_and, and_true, tti]
        refine ⟨vk, sX6_giveFeatures_33 (e_bitCount hx ?_)⟩
        simp only [cont, Option.toList, List.cons_append, List.nil_append]
        refine rX6_giveFeatures_36 ?_
        simp only [bX6_giveFeatures_36, run, Nat.reduceAdd, lg, st1, st2, lkill, lset, fvv, sfv, kind3, cat1, retI, retA, List.length_cons, List.length_nil, true_and, and_true, or_true, true_or, qX6_giveFeatures, n1, n3, n5, ek, er, kL, kI, kD, kR, rL, rI, rD, iL, iD, iR, lI, lD, lR, s1, s2, c1, c2, ks, kk, nI_1, show (1 : Int32) = nI 1 from rfl, nI_add, not_true_eq_false, not_false_eq_true, false_implies, true_and, and_true, tti]
        exact ⟨vs, vk, vk, vs, nxt _ _ eb⟩
  refine rX6_giveFeatures_0 ?_
  simp only [bX6_giveFeatures_0, run, Nat.reduceAdd, lg, st1, st2, lkill, lset, fvv, sfv, kind3, cat1, retI, retA, List.length_cons, List.length_nil, true_and, and_true, or_true, true_or, qX6_giveFeatures, n1, n2, n4, ks, not_true_eq_false, not_false_eq_true, false_implies, true_and, and_true, tti]
  refine ⟨vs, lp 16 0 (sI h 6 s (nI v)) rfl rfl rfl rfl (Kp.sI ⟨by omega, by omega⟩) (fun t ht => ?_) (fun a t ha ht => ?_) _⟩
  · rw [zI_sI]
    unfold fup
    by_cases e : t = s
    · rw [e, up1_s, if_pos rfl]
    · rw [up1_n _ _ e, if_neg e]; exact (n6 t ht).2.2.2.1
  · rw [zI_n (by omega), if_neg (by omega)]
    exact (n6 a ha).2.2.2.2 t ht
