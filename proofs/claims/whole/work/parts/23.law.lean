/-! ===== sounds; a law ===== -/
def pop : Nat → Nat → Nat
  | 0, _ => 0
  | n + 1, x => x % 2 + pop n (x / 2)
def cst (f : Nat → Nat) (s t : Nat) : Nat := if s = t then 0 else 1 + pop 6 (f s ^^^ f t)
/-- the sounds at 5, their features at 6, their costs at 7 and 8 to 23 -/
def Sn (h : AH) (f : Nat → Nat) : Prop := zK h 5 = (1, 7) ∧ zR h 5 0 = 6 ∧ zR h 5 1 = 7 ∧ zK h 6 = (2, 16) ∧ zK h 7 = (8, 16) ∧ ∀ s, s < 16 → zR h 7 s = 8 + s ∧ zK h (8 + s) = (2, 16) ∧ f s < 64 ∧ zI h 6 s = nI (f s) ∧ ∀ t, t < 16 → zI h (8 + s) t = nI (cst f s t)
abbrev Lw : Type := Nat × Nat × Nat × Nat
def lwOk (w : Lw) : Prop := w.1 < 65536 ∧ w.2.1 ≤ 22 ∧ w.2.2.1 < 131072 ∧ w.2.2.2 < 131072
def bI (b : Nat) : Int32 := nI b - 1
def LwR (h : AH) (x : Nat) (w : Lw) : Prop := lwOk w ∧ zK h x = (1, 4) ∧ zI h x 0 = nI w.1 ∧ zI h x 1 = bI w.2.1 ∧ zI h x 2 = nI w.2.2.1 ∧ zI h x 3 = nI w.2.2.2
def trn (f : Nat → Nat) (s k : Nat) : Nat := if fa_first (fun o => f o == f s ^^^ 2 ^ k) 16 < 16 then fa_first (fun o => f o == f s ^^^ 2 ^ k) 16 else s
def her (f : Nat → Nat) (w : Lw) (s : Nat) : Option Nat := match w.2.1 with
  | 0 => none
  | b + 1 => if b < 16 then some b else some (trn f s (b - 16))
def hld (w : Lw) (l : List Nat) (p : Nat) : Bool := w.1.testBit (l.getD p 0) && (w.2.2.1 == 0 || w.2.2.1.testBit (if p = 0 then 16 else l.getD (p - 1) 0)) && (w.2.2.2 == 0 || w.2.2.2.testBit (if p + 1 = l.length then 16 else l.getD (p + 1) 0))
def opt (f : Nat → Nat) (w : Lw) (l : List Nat) (p : Nat) : Option Nat := if hld w l p then her f w (l.getD p 0) else some (l.getD p 0)
def mde (f : Nat → Nat) (w : Lw) (l : List Nat) : Nat → List Nat
  | 0 => []
  | p + 1 => mde f w l p ++ (opt f w l p).toList
def gov (f : Nat → Nat) (w : Lw) (l : List Nat) : List Nat := if mde f w l l.length = [] then l else mde f w l l.length
def hI : Option Nat → Int32
  | none => -1
  | some s => nI s
theorem trn_lt {f : Nat → Nat} {s k : Nat} (hs : s < 16) : trn f s k < 16 := by
  unfold trn
  split <;> assumption
theorem her_lt {f : Nat → Nat} {w : Lw} {s t : Nat} (hs : s < 16) (h : her f w s = some t) : t < 16 := by
  unfold her at h
  split at h
  · exact absurd h (by simp)
  · split at h
    · rw [← Option.some.inj h]; assumption
    · rw [← Option.some.inj h]; exact trn_lt hs
theorem opt_lt {f : Nat → Nat} {w : Lw} {l : List Nat} {p t : Nat} (hl : Wok l) (h : opt f w l p = some t) : t < 16 := by
  unfold opt at h
  split at h
  · exact her_lt (hl.at p) h
  · rw [← Option.some.inj h]; exact hl.at p
theorem mde_le {f : Nat → Nat} {w : Lw} {l : List Nat} : ∀ p, (mde f w l p).length ≤ p
  | 0 => Nat.le_refl _
  | p + 1 => by
    have := mde_le (f := f) (w := w) (l := l) p
    simp only [mde, List.length_append]
    cases opt f w l p <;> simp <;> omega
theorem mde_ok {f : Nat → Nat} {w : Lw} {l : List Nat} (hl : Wok l) : ∀ p, ∀ s ∈ mde f w l p, s < 16
  | 0, s, h => by simp [mde] at h
  | p + 1, s, h => by
    simp only [mde, List.mem_append] at h
    rcases h with h | h
    · exact mde_ok hl p s h
    · cases ho : opt f w l p with
      | none => rw [ho] at h; simp at h
      | some t => rw [ho] at h; simp at h; subst h; exact opt_lt hl ho
theorem mde_wok {f : Nat → Nat} {w : Lw} {l : List Nat} (hl : Wok l) {p : Nat} (hp : p ≤ l.length) : Wok (mde f w l p) := ⟨Nat.le_trans (mde_le p) (Nat.le_trans hp hl.1), mde_ok hl p⟩
theorem gov_wok {f : Nat → Nat} {w : Lw} {l : List Nat} (hl : Wok l) : Wok (gov f w l) := by
  unfold gov
  split
  · exact hl
  · exact mde_wok hl (Nat.le_refl _)
theorem w_one : ∀ l, l < 31 → (1 : Int32) <<< (nI l &&& 31) = nI (2 ^ l) := by decide +kernel
theorem w_has {n j : Nat} (hj : j < 31) : (((nI n).toUInt32 >>> ((nI j).toUInt32 &&& Int32.toUInt32 31)).toInt32 &&& 1) = 0 ↔ n.testBit j = false := by
  rw [nf_bit _ j (by omega), w_one j hj, fa_bit hj]
theorem e_has {g : Gp} {n j : Nat} {h : AH} {Q : PQ} (hj : j < 31) (hq : Q (.inl (some (vI (if n.testBit j then 1 else 0)))) h) : Ev g mX3_has [vI (nI n), vI (nI j)] h Q := by
  refine nX3_has ?_
  refine rX3_has_0 ?_
  simp only [bX3_has_0, run, Nat.reduceAdd, lg, st1, st2, lkill, lset, fvv, sfv, kind3, cat1, retI, retA, List.length_cons, List.length_nil, true_and, and_true, or_true, true_or, qX3_has]
  refine ⟨fun h0 => ?_, fun h0 => ?_⟩
  · have hb := (w_has hj).mp h0
    rw [hb] at hq
    refine rX3_has_12 ?_
    simp only [bX3_has_12, run, Nat.reduceAdd, lg, st1, st2, lkill, lset, fvv, sfv, kind3, cat1, retI, retA, List.length_cons, List.length_nil, true_and, and_true, or_true, true_or, qX3_has]
    exact hq
  · have hb : n.testBit j = true := ts_nf fun e => h0 ((w_has hj).mpr e)
    rw [hb] at hq
    exact hq
theorem e_turned {g : Gp} {f : Nat → Nat} {s k : Nat} {h : AH} {Q : PQ} (hn : Sn h f) (hs : s < 16) (hk : k < 6) (hq : Q (.inl (some (vI (nI (trn f s k))))) h) : Ev g mX6_turned [vR 5, vI (nI s), vI (nI k)] h Q := by
  obtain ⟨n1, n2, n3, n4, n5, n6⟩ := hn
  refine nX6_turned ?_
  have h6 : zI h 6 s = nI (f s) := (n6 s hs).2.2.2.1
  have h7 := (n6 s hs).2.2.1
  have lp : ∀ d j, j + d = 16 → (∀ i, i < j → (f i == f s ^^^ 2 ^ k) = false) → Ex g mX6_turned 14 [vR 5, vI (nI s), vI (nI k), vI (nI (f s ^^^ 2 ^ k)), vI (nI j)] [] h (0, 0) Q := by
    intro d
    induction d with
    | zero =>
      intro j hj hno
      refine rX6_turned_14 ?_
      simp only [bX6_turned_14, run, Nat.reduceAdd, lg, st1, st2, lkill, lset, fvv, sfv, kind3, cat1, retI, retA, List.length_cons, List.length_nil, true_and, and_true, or_true, true_or, qX6_turned]
      refine br_t (nI_le (a := 16) (by omega) (by omega)) ?_
      refine rX6_turned_41 ?_
      simp only [bX6_turned_41, run, Nat.reduceAdd, lg, st1, st2, lkill, lset, fvv, sfv, kind3, cat1, retI, retA, List.length_cons, List.length_nil, true_and, and_true, or_true, true_or, qX6_turned]
      have : ¬ fa_first (fun o => f o == f s ^^^ 2 ^ k) 16 < 16 := fun hlt => by
        have y := fa_first_yes (fun o => f o == f s ^^^ 2 ^ k) 16 hlt
        rw [hno _ (by omega)] at y
        exact absurd y (by decide)
      rw [trn, if_neg this] at hq
      exact hq
    | succ d ih =>
      intro j hj hno
      have h9 := n6 j (by omega)
      refine rX6_turned_14 ?_
      simp only [bX6_turned_14, run, Nat.reduceAdd, lg, st1, st2, lkill, lset, fvv, sfv, kind3, cat1, retI, retA, List.length_cons, List.length_nil, true_and, and_true, or_true, true_or, qX6_turned]
      rw [n2, n4, nI_clamp (by omega), h9.2.2.2.1]
      refine br_f (nI_ge (b := 16) (by omega) (by omega)) ⟨n1, rfl, vp_in_nI (by omega) (by omega), bn_c (fun hc => ?_) fun hc => ?_⟩
      · refine rX6_turned_35 ?_
        simp only [bX6_turned_35, run, Nat.reduceAdd, lg, st1, st2, lkill, lset, fvv, sfv, kind3, cat1, retI, retA, List.length_cons, List.length_nil, true_and, and_true, or_true, true_or, qX6_turned]
        rw [nI_1]
        refine ih (j + 1) (by omega) fun i hi => ?_
        by_cases e : i = j
        · subst e
          exact beq_false_of_ne fun e => hc (by rw [e])
        · exact hno i (by omega)
      · have hlt : f s ^^^ 2 ^ k < 64 := Nat.xor_lt_two_pow (n := 6) h7 (Nat.pow_lt_pow_right (by decide) hk)
        have e2 : f j = f s ^^^ 2 ^ k := (nI_eq (by omega) (by omega)).mp hc
        have hp : (f j == f s ^^^ 2 ^ k) = true := beq_iff_eq.mpr e2
        have hle : fa_first (fun o => f o == f s ^^^ 2 ^ k) 16 = j := by
          have q1 : ¬ j < fa_first (fun o => f o == f s ^^^ 2 ^ k) 16 := fun hlt => by
            have y := fa_first_no (fun o => f o == f s ^^^ 2 ^ k) _ _ hlt
            exact absurd (hp.symm.trans y) (by decide)
          have q2 : ¬ fa_first (fun o => f o == f s ^^^ 2 ^ k) 16 < j := fun hlt => by
            have y := fa_first_yes (fun o => f o == f s ^^^ 2 ^ k) 16 (by omega)
            rw [hno _ hlt] at y
            exact absurd y (by decide)
          omega
        rw [trn, hle, if_pos (by omega)] at hq
        exact hq
  refine rX6_turned_0 ?_
  simp only [bX6_turned_0, run, Nat.reduceAdd, lg, st1, st2, lkill, lset, fvv, sfv, kind3, cat1, retI, retA, List.length_cons, List.length_nil, true_and, and_true, or_true, true_or, qX6_turned]
  rw [n2, n4, nI_clamp (by omega), h6, w_one k (by omega), nx_xor]
  exact ⟨n1, rfl, vp_in_nI (by omega) (by omega), lp 16 0 rfl (fun i hi => absurd hi (Nat.not_lt_zero i))⟩
theorem e_heirOf {g : Gp} {f : Nat → Nat} {w : Lw} {x s : Nat} {h : AH} {Q : PQ} (hn : Sn h f) (hw : LwR h x w) (hs : s < 16) (hq : Q (.inl (some (vI (hI (her f w s))))) h) : Ev g mX3_heirOf [vR x, vI (nI s), vR 5] h Q := by
  obtain ⟨⟨w1, w2, w3, w4⟩, k1, k2, k3, k4, k5⟩ := hw
  refine nX3_heirOf ?_
  refine rX3_heirOf_0 ?_
  simp only [bX3_heirOf_0, run, Nat.reduceAdd, lg, st1, st2, lkill, lset, fvv, sfv, kind3, cat1, retI, retA, List.length_cons, List.length_nil, true_and, and_true, or_true, true_or, qX3_heirOf]
  rw [k3]
  unfold her at hq
  cases hb : w.2.1 with
  | zero =>
    rw [hb] at hq
    exact ⟨k1, br_f (by decide) ⟨k1, hq⟩⟩
  | succ b =>
    rw [hb] at hq w2
    replace hq : Q (.inl (some (vI (hI (if b < 16 then some b else some (trn f s (b - 16))))))) h := hq
    rw [show bI (b + 1) = nI b from nI_pred b]
    refine ⟨k1, fun h0 => ?_, fun h0 => ?_⟩
    · have hb2 := (nI_leI (a := 16) (by omega) (by omega)).mp h0
      rw [if_neg (by omega)] at hq
      refine rX3_heirOf_16 ?_
      simp only [bX3_heirOf_16, run, Nat.reduceAdd, lg, st1, st2, lkill, lset, fvv, sfv, kind3, cat1, retI, retA, List.length_cons, List.length_nil, true_and, and_true, or_true, true_or, qX3_heirOf]
      rw [k3, hb, show bI (b + 1) = nI b from nI_pred b, show (16 : Int32) = nI 16 from rfl, pk_sub (by omega)]
      refine ⟨k1, sX3_heirOf_25 hn.1 (e_turned hn hs (by omega) ?_)⟩
      simp only [cont, Option.toList, List.cons_append, List.nil_append]
      refine rX3_heirOf_28 ?_
      simp only [bX3_heirOf_28, run, Nat.reduceAdd, lg, st1, st2, lkill, lset, fvv, sfv, kind3, cat1, retI, retA, List.length_cons, List.length_nil, true_and, and_true, or_true, true_or, qX3_heirOf]
      exact hq
    · have hb2 : ¬ 16 ≤ b := fun q => h0 (nI_le (a := 16) q (by omega))
      rw [if_pos (by omega)] at hq
      exact ⟨k1, hq⟩
theorem e_holdsAt {g : Gp} {w : Lw} {l : List Nat} {x p : Nat} {h : AH} {Q : PQ} (hw : LwR h x w) (hl : Wok l) (hp : p < l.length) (hq : Q (.inl (some (vI (if hld w l p then 1 else 0)))) h) : Ev g mX3_holdsAt [vR x, vL (eC l), vI (nI p)] h Q := by
  obtain ⟨⟨w1, w2, w3, w4⟩, k1, k2, k3, k4, k5⟩ := hw
  have hl1 := hl.1
  refine nX3_holdsAt ?_
  have t3 : ∀ a b : Nat, a < 17 → b < 17 → a = (if p = 0 then 16 else l.getD (p - 1) 0) → b = (if p + 1 = l.length then 16 else l.getD (p + 1) 0) → (zK h x = (1, 4) ∧ Ex g mX3_holdsAt 48 [vR x, vL (eC l), vU, vI (nI p), vI (nI a), vI (nI b)] [vI (nI p), vL (eC l), vI (zI h x 0)] h (0, 0) Q) := by
    intro a b ha hb ea eb
    have no : hld w l p = false → Ex g mX3_holdsAt 99 [vR x, vL (eC l), vU, vI (nI p), vI (nI a), vI (nI b)] [] h (0, 0) Q := by
      intro hf
      rw [hf] at hq
      refine rX3_holdsAt_99 ?_
      simp only [bX3_holdsAt_99, run, Nat.reduceAdd, lg, st1, st2, lkill, lset, fvv, sfv, kind3, cat1, retI, retA, List.length_cons, List.length_nil, true_and, and_true, or_true, true_or, qX3_holdsAt]
      exact hq
    have hld_e : hld w l p = (w.1.testBit (l.getD p 0) && (w.2.2.1 == 0 || w.2.2.1.testBit a) && (w.2.2.2 == 0 || w.2.2.2.testBit b)) := by rw [ea, eb]; rfl
    have yes : hld w l p = true → Q (.inl (some (vI 1))) h := by
      intro hf
      rw [hf] at hq
      exact hq
    generalize hld w l p = B at hld_e no yes
    have l76 : w.1.testBit (l.getD p 0) = true → (w.2.2.1 == 0 || w.2.2.1.testBit a) = true → (zK h x = (1, 4) ∧ (zI h x 3 = 0 → Ex g mX3_holdsAt 95 [vR x, vL (eC l), vU, vI (nI p), vI (nI a), vI (nI b)] [] h (0, 0) Q) ∧ (¬ zI h x 3 = 0 → zK h x = (1, 4) ∧ Ex g mX3_holdsAt 89 [vR x, vL (eC l), vU, vI (nI p), vI (nI a), vI (nI b)] [vI (nI b), vI (zI h x 3)] h (0, 0) Q)) := by
      intro c1 c2
      rw [c1, c2] at hld_e
      rw [k5]
      refine ⟨k1, fun h0 => ?_, fun h0 => ⟨k1, ?_⟩⟩
      · have h9 := (nI_eq (b := 0) (by omega) (by omega)).mp h0
        refine rX3_holdsAt_95 ?_
        simp only [bX3_holdsAt_95, run, Nat.reduceAdd, lg, st1, st2, lkill, lset, fvv, sfv, kind3, cat1, retI, retA, List.length_cons, List.length_nil, true_and, and_true, or_true, true_or, qX3_holdsAt]
        exact yes (by rw [hld_e, h9]; rfl)
      · refine sX3_holdsAt_89 (e_has (by omega) ?_)
        simp only [cont, Option.toList, List.cons_append, List.nil_append]
        refine rX3_holdsAt_92 ?_
        simp only [bX3_holdsAt_92, run, Nat.reduceAdd, lg, st1, st2, lkill, lset, fvv, sfv, kind3, cat1, retI, retA, List.length_cons, List.length_nil, true_and, and_true, or_true, true_or, qX3_holdsAt]
        cases c3 : w.2.2.2.testBit b with
        | true => exact br_f (by decide) (yes (by rw [hld_e, c3]; simp))
        | false =>
          refine br_t (by decide) (no ?_)
          have : ¬ w.2.2.2 = 0 := fun e => h0 (by rw [e]; rfl)
          rw [hld_e, c3]
          simp [this]
    rw [k2]
    refine ⟨k1, sX3_holdsAt_48 (e_at hl hp ?_)⟩
    simp only [cont, Option.toList, List.cons_append, List.nil_append]
    have hat := hl.at p
    refine sX3_holdsAt_51 (e_has (by omega) ?_)
    simp only [cont, Option.toList, List.cons_append, List.nil_append]
    refine rX3_holdsAt_54 ?_
    simp only [bX3_holdsAt_54, run, Nat.reduceAdd, lg, st1, st2, lkill, lset, fvv, sfv, kind3, cat1, retI, retA, List.length_cons, List.length_nil, true_and, and_true, or_true, true_or, qX3_holdsAt]
    cases c1 : w.1.testBit (l.getD p 0) with
    | false => exact br_t (by decide) (no (by rw [hld_e, c1]; rfl))
    | true =>
      rw [k4]
      refine br_f (by decide) ⟨k1, fun h0 => ?_, fun h0 => ⟨k1, ?_⟩⟩
      · have h9 := (nI_eq (b := 0) (by omega) (by omega)).mp h0
        have z := l76 c1 (by rw [h9]; rfl)
        refine rX3_holdsAt_76 ?_
        simp only [bX3_holdsAt_76, run, Nat.reduceAdd, lg, st1, st2, lkill, lset, fvv, sfv, kind3, cat1, retI, retA, List.length_cons, List.length_nil, true_and, and_true, or_true, true_or, qX3_holdsAt]
        exact z
      · have hne : ¬ w.2.2.1 = 0 := fun e => h0 (by rw [e]; rfl)
        refine sX3_holdsAt_70 (e_has (by omega) ?_)
        simp only [cont, Option.toList, List.cons_append, List.nil_append]
        refine rX3_holdsAt_73 ?_
        simp only [bX3_holdsAt_73, run, Nat.reduceAdd, lg, st1, st2, lkill, lset, fvv, sfv, kind3, cat1, retI, retA, List.length_cons, List.length_nil, true_and, and_true, or_true, true_or, qX3_holdsAt]
        cases c3 : w.2.2.1.testBit a with
        | true =>
          have z := l76 c1 (by rw [c3]; simp)
          exact br_f (by decide) z
        | false =>
          refine br_t (by decide) (no ?_)
          rw [hld_e, c3]
          simp [hne]
  have t2 : ∀ a : Nat, a < 17 → a = (if p = 0 then 16 else l.getD (p - 1) 0) → Ex g mX3_holdsAt 22 [vR x, vL (eC l), vU, vI (nI p), vI (nI a), vU] [vL (eC l), vI (nI (p + 1))] h (0, 0) Q := by
    intro a ha ea
    refine sX3_holdsAt_22 (e_size hl ?_)
    simp only [cont, Option.toList, List.cons_append, List.nil_append]
    refine rX3_holdsAt_25 ?_
    simp only [bX3_holdsAt_25, run, Nat.reduceAdd, lg, st1, st2, lkill, lset, fvv, sfv, kind3, cat1, retI, retA, List.length_cons, List.length_nil, true_and, and_true, or_true, true_or, qX3_holdsAt]
    refine bn_c (fun hc => ?_) fun hc => ?_
    · have hne : ¬ p + 1 = l.length := fun e => hc (by rw [e])
      refine rX3_holdsAt_33 ?_
      simp only [bX3_holdsAt_33, run, Nat.reduceAdd, lg, st1, st2, lkill, lset, fvv, sfv, kind3, cat1, retI, retA, List.length_cons, List.length_nil, true_and, and_true, or_true, true_or, qX3_holdsAt]
      rw [nI_1]
      refine sX3_holdsAt_37 (e_at hl (by omega) ?_)
      simp only [cont, Option.toList, List.cons_append, List.nil_append]
      have z := t3 a (l.getD (p + 1) 0) ha (Nat.lt_succ_of_lt (hl.at _)) ea (by rw [if_neg hne])
      refine rX3_holdsAt_40 ?_
      simp only [bX3_holdsAt_40, run, Nat.reduceAdd, lg, st1, st2, lkill, lset, fvv, sfv, kind3, cat1, retI, retA, List.length_cons, List.length_nil, true_and, and_true, or_true, true_or, qX3_holdsAt]
      exact z
    · have he : p + 1 = l.length := (nI_eq (by omega) (by omega)).mp hc
      exact t3 a 16 ha (by omega) ea (by rw [if_pos he])
  refine rX3_holdsAt_0 ?_
  simp only [bX3_holdsAt_0, run, Nat.reduceAdd, lg, st1, st2, lkill, lset, fvv, sfv, kind3, cat1, retI, retA, List.length_cons, List.length_nil, true_and, and_true, or_true, true_or, qX3_holdsAt]
  refine bn_c (fun hc => ?_) fun hc => ?_
  · have hne : ¬ p = 0 := fun e => hc (by rw [e]; rfl)
    refine rX3_holdsAt_9 ?_
    simp only [bX3_holdsAt_9, run, Nat.reduceAdd, lg, st1, st2, lkill, lset, fvv, sfv, kind3, cat1, retI, retA, List.length_cons, List.length_nil, true_and, and_true, or_true, true_or, qX3_holdsAt]
    rw [show (1 : Int32) = nI 1 from rfl, pk_sub (by omega)]
    refine sX3_holdsAt_13 (e_at hl (by omega) ?_)
    simp only [cont, Option.toList, List.cons_append, List.nil_append]
    have z := t2 (l.getD (p - 1) 0) (Nat.lt_succ_of_lt (hl.at _)) (by rw [if_neg hne])
    refine rX3_holdsAt_16 ?_
    simp only [bX3_holdsAt_16, run, Nat.reduceAdd, lg, st1, st2, lkill, lset, fvv, sfv, kind3, cat1, retI, retA, List.length_cons, List.length_nil, true_and, and_true, or_true, true_or, qX3_holdsAt]
    rw [nI_1]
    exact z
  · have he : p = 0 := (nI_eq (b := 0) (by omega) (by omega)).mp hc
    rw [nI_1]
    exact t2 16 (by omega) (by rw [if_pos he])
theorem e_goOver {g : Gp} {f : Nat → Nat} {w : Lw} {l : List Nat} {x : Nat} {h : AH} {Q : PQ} (hn : Sn h f) (hw : LwR h x w) (hl : Wok l) (hq : Q (.inl (some (vL (eC (gov f w l))))) h) : Ev g mX3_goOver [vR x, vL (eC l), vR 5] h Q := by
  have hl1 := hl.1
  refine nX3_goOver ?_
  have lp : ∀ d p, p + d = l.length → ∀ y z : AV, Ex g mX3_goOver 6 [vR x, vL (eC l), vU, vR 5, vL (eC (mde f w l p)), vU, vI (nI p), y, z] [] h (0, 0) Q := by
    intro d
    induction d with
    | zero =>
      intro p hp y z
      have hp2 : p = l.length := by omega
      refine rX3_goOver_6 ?_
      simp only [bX3_goOver_6, run, Nat.reduceAdd, lg, st1, st2, lkill, lset, fvv, sfv, kind3, cat1, retI, retA, List.length_cons, List.length_nil, true_and, and_true, or_true, true_or, qX3_goOver]
      refine sX3_goOver_9 (e_size hl ?_)
      simp only [cont, Option.toList, List.cons_append, List.nil_append]
      refine rX3_goOver_12 ?_
      simp only [bX3_goOver_12, run, Nat.reduceAdd, lg, st1, st2, lkill, lset, fvv, sfv, kind3, cat1, retI, retA, List.length_cons, List.length_nil, true_and, and_true, or_true, true_or, qX3_goOver]
      refine br_t (nI_le (by omega) (by omega)) ?_
      refine rX3_goOver_68 ?_
      simp only [bX3_goOver_68, run, Nat.reduceAdd, lg, st1, st2, lkill, lset, fvv, sfv, kind3, cat1, retI, retA, List.length_cons, List.length_nil, true_and, and_true, or_true, true_or, qX3_goOver]
      subst hp2
      have hm := mde_wok (f := f) (w := w) hl (Nat.le_refl _)
      unfold gov at hq
      refine bn_c (fun hc => ?_) fun hc => ?_
      · have h9 : ¬ mde f w l l.length = [] := fun e => hc ((lg_cmp_eq _ _).mpr ((eC_0 hm).mpr e))
        rw [if_neg h9] at hq
        refine rX3_goOver_79 ?_
        simp only [bX3_goOver_79, run, Nat.reduceAdd, lg, st1, st2, lkill, lset, fvv, sfv, kind3, cat1, retI, retA, List.length_cons, List.length_nil, true_and, and_true, or_true, true_or, qX3_goOver]
        exact hq
      · have h9 : mde f w l l.length = [] := (eC_0 hm).mp ((lg_cmp_eq _ _).mp hc)
        rw [if_pos h9] at hq
        exact hq
    | succ d ih =>
      intro p hp y z
      have hm := mde_wok (f := f) (w := w) hl (p := p) (by omega)
      have hat := hl.at p
      have next : ∀ y z, Ex g mX3_goOver 6 [vR x, vL (eC l), vU, vR 5, vL (eC (mde f w l (p + 1))), vU, vI (nI p + 1), y, z] [] h (0, 0) Q := fun y z => by rw [nI_1]; exact ih (p + 1) (by omega) y z
      have fin : ∀ o : Option Nat, o = opt f w l p → ((hI o = -1 → Ex g mX3_goOver 62 [vR x, vL (eC l), vU, vR 5, vL (eC (mde f w l p)), vU, vI (nI p), vI (nI (l.getD p 0)), vI (hI o)] [] h (0, 0) Q) ∧ (¬ hI o = -1 → Ex g mX3_goOver 57 [vR x, vL (eC l), vU, vR 5, vL (eC (mde f w l p)), vU, vI (nI p), vI (nI (l.getD p 0)), vI (hI o)] [vI (hI o), vL (eC (mde f w l p))] h (0, 0) Q)) := by
        intro o ho
        cases o with
        | none =>
          refine br_t rfl ?_
          have e1 : mde f w l (p + 1) = mde f w l p := by simp [mde, ← ho]
          rw [e1] at next
          refine rX3_goOver_62 ?_
          simp only [bX3_goOver_62, run, Nat.reduceAdd, lg, st1, st2, lkill, lset, fvv, sfv, kind3, cat1, retI, retA, List.length_cons, List.length_nil, true_and, and_true, or_true, true_or, qX3_goOver]
          exact next _ _
        | some t =>
          have ht := opt_lt hl ho.symm
          have e1 : mde f w l (p + 1) = mde f w l p ++ [t] := by simp [mde, ← ho]
          rw [e1] at next
          refine br_f (fun e => ?_) ?_
          · have := congrArg Int32.toInt e
            rw [show hI (some t) = nI t from rfl, nI_toInt (by omega)] at this
            simp at this
          · refine sX3_goOver_57 (e_plus hm (Nat.lt_of_le_of_lt (mde_le p) (by omega)) ht ?_)
            simp only [cont, Option.toList, List.cons_append, List.nil_append]
            refine rX3_goOver_60 ?_
            simp only [bX3_goOver_60, run, Nat.reduceAdd, lg, st1, st2, lkill, lset, fvv, sfv, kind3, cat1, retI, retA, List.length_cons, List.length_nil, true_and, and_true, or_true, true_or, qX3_goOver]
            exact next _ _
      refine rX3_goOver_6 ?_
      simp only [bX3_goOver_6, run, Nat.reduceAdd, lg, st1, st2, lkill, lset, fvv, sfv, kind3, cat1, retI, retA, List.length_cons, List.length_nil, true_and, and_true, or_true, true_or, qX3_goOver]
      refine sX3_goOver_9 (e_size hl ?_)
      simp only [cont, Option.toList, List.cons_append, List.nil_append]
      refine rX3_goOver_12 ?_
      simp only [bX3_goOver_12, run, Nat.reduceAdd, lg, st1, st2, lkill, lset, fvv, sfv, kind3, cat1, retI, retA, List.length_cons, List.length_nil, true_and, and_true, or_true, true_or, qX3_goOver]
      refine br_f (nI_ge (by omega) (by omega)) ?_
      refine sX3_goOver_18 (e_at hl (by omega) ?_)
      simp only [cont, Option.toList, List.cons_append, List.nil_append]
      refine rX3_goOver_21 ?_
      simp only [bX3_goOver_21, run, Nat.reduceAdd, lg, st1, st2, lkill, lset, fvv, sfv, kind3, cat1, retI, retA, List.length_cons, List.length_nil, true_and, and_true, or_true, true_or, qX3_goOver]
      refine sX3_goOver_27 hw.2.1 (e_holdsAt hw hl (by omega) ?_)
      simp only [cont, Option.toList, List.cons_append, List.nil_append]
      refine rX3_goOver_30 ?_
      simp only [bX3_goOver_30, run, Nat.reduceAdd, lg, st1, st2, lkill, lset, fvv, sfv, kind3, cat1, retI, retA, List.length_cons, List.length_nil, true_and, and_true, or_true, true_or, qX3_goOver]
      unfold opt at fin
      cases hc : hld w l p with
      | false =>
        rw [hc] at fin
        refine br_t (by decide) ?_
        have z := fin (some (l.getD p 0)) rfl
        refine rX3_goOver_43 ?_
        simp only [bX3_goOver_43, run, Nat.reduceAdd, lg, st1, st2, lkill, lset, fvv, sfv, kind3, cat1, retI, retA, List.length_cons, List.length_nil, true_and, and_true, or_true, true_or, qX3_goOver]
        exact z
      | true =>
        rw [hc] at fin
        refine br_f (by decide) ?_
        refine sX3_goOver_37 hw.2.1 (e_heirOf hn hw hat ?_)
        simp only [cont, Option.toList, List.cons_append, List.nil_append]
        have z := fin _ rfl
        refine rX3_goOver_40 ?_
        simp only [bX3_goOver_40, run, Nat.reduceAdd, lg, st1, st2, lkill, lset, fvv, sfv, kind3, cat1, retI, retA, List.length_cons, List.length_nil, true_and, and_true, or_true, true_or, qX3_goOver]
        exact z
  refine rX3_goOver_0 ?_
  simp only [bX3_goOver_0, run, Nat.reduceAdd, lg, st1, st2, lkill, lset, fvv, sfv, kind3, cat1, retI, retA, List.length_cons, List.length_nil, true_and, and_true, or_true, true_or, qX3_goOver]
  have z := lp l.length 0 (by omega) vU vU
  rw [show mde f w l 0 = [] from rfl, eC_nil, nI_0] at z
  exact z
