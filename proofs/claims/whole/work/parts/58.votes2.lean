/-! ===== votes for a lost word ===== -/
def opn (w : List Nat) (p s : Nat) : Nat := if s = w.getD p 0 then 1 else 0
/-- how many of the first k columns hold a sound above -/
def ngp (cs : List (Nat × Nat)) : Nat → Nat
  | 0 => 0
  | k + 1 => if (cs.getD k (0, 0)).1 = 16 then ngp cs k else ngp cs k + 1
def cas (cs : List (Nat × Nat)) (V : Nat → Nat → Nat) : Nat → Nat → Nat → Nat
  | 0 => V
  | k + 1 => if (cs.getD k (0, 0)).1 = 16 then cas cs V k else fun p s => if p = ngp cs k ∧ s = (cs.getD k (0, 0)).2 then cas cs V k p s + 1 else cas cs V k p s
theorem cas_le {cs : List (Nat × Nat)} {V : Nat → Nat → Nat} {p s : Nat} : ∀ k, V p s ≤ cas cs V k p s ∧ cas cs V k p s ≤ V p s + k
  | 0 => ⟨Nat.le_refl _, Nat.le_refl _⟩
  | k + 1 => by
    have ih := cas_le (cs := cs) (V := V) (p := p) (s := s) k
    unfold cas
    split
    · exact ⟨ih.1, by omega⟩
    · show _ ≤ (if _ then _ else _) ∧ (if _ then _ else _) ≤ _
      split
      · exact ⟨Nat.le_succ_of_le ih.1, Nat.succ_le_succ ih.2⟩
      · exact ⟨ih.1, Nat.le_succ_of_le ih.2⟩
theorem ngp_cons {c : Nat × Nat} {cs : List (Nat × Nat)} : ∀ k, ngp (c :: cs) (k + 1) = (if c.1 = 16 then 0 else 1) + ngp cs k
  | 0 => by
    show (if c.1 = 16 then 0 else 0 + 1) = _
    split <;> rfl
  | k + 1 => by
    rw [ngp, ngp_cons k]
    show (if (cs.getD k (0, 0)).1 = 16 then _ else _) = _
    rw [ngp]
    split
    · rfl
    · omega
theorem ngp_clf {f : Nat → Nat} : ∀ n a b, (∀ s ∈ a, s < 16) → a.length + b.length ≤ n → ngp (clf f n a b) (clf f n a b).length = a.length
  | 0, a, b, _, h => by
    have : a = [] := List.eq_nil_of_length_eq_zero (by omega)
    subst this
    rfl
  | _ + 1, [], [], _, _ => rfl
  | n + 1, [], y :: m, h1, h => by
    rw [clf, List.length_cons, ngp_cons, if_pos rfl, ngp_clf n [] m h1 (by simp at h; simp; omega)]
    simp
  | n + 1, x :: l, [], h1, h => by
    have a1 := h1 x List.mem_cons_self
    rw [clf, List.length_cons, ngp_cons, if_neg (by show ¬ x = 16; omega), ngp_clf n l [] (fun s hs => h1 s (List.mem_cons_of_mem _ hs)) (by simp at h; simp; omega)]
    simp; omega
  | n + 1, x :: l, y :: m, h1, h => by
    have a1 := h1 x List.mem_cons_self
    have t1 : ∀ s ∈ l, s < 16 := fun s hs => h1 s (List.mem_cons_of_mem _ hs)
    simp only [List.length_cons] at h
    unfold clf
    split
    · rw [List.length_cons, ngp_cons, if_neg (by show ¬ x = 16; omega), ngp_clf n l m t1 (by omega)]
      simp; omega
    · split
      · rw [List.length_cons, ngp_cons, if_neg (by show ¬ x = 16; omega), ngp_clf n l (y :: m) t1 (by simp; omega)]
        simp; omega
      · rw [List.length_cons, ngp_cons, if_pos rfl, ngp_clf n (x :: l) m h1 (by simp; omega)]
        simp
theorem ngp_mono {cs : List (Nat × Nat)} {k : Nat} : ∀ d, ngp cs k ≤ ngp cs (k + d)
  | 0 => Nat.le_refl _
  | d + 1 => by
    have ih := ngp_mono (cs := cs) (k := k) d
    rw [← Nat.add_assoc, ngp]
    split <;> omega
theorem ngp_lt {f : Nat → Nat} {a b : List Nat} {k : Nat} (ha : ∀ s ∈ a, s < 16) (hk : k < (cls f a b).length) (h : ¬ ((cls f a b).getD k (0, 0)).1 = 16) : ngp (cls f a b) k < a.length := by
  have h1 := ngp_clf (f := f) (a.length + b.length) a b ha (Nat.le_refl _)
  have h2 := ngp_mono (cs := cls f a b) (k := k + 1) ((cls f a b).length - (k + 1))
  rw [show k + 1 + ((cls f a b).length - (k + 1)) = (cls f a b).length by omega, ngp, if_neg h] at h2
  change ngp (cls f a b) (cls f a b).length = a.length at h1
  omega
theorem e_openVotes {g : Gp} {wd : List Nat} {h : AH} {Q : PQ} {f : Nat → Nat} {gv : Nat → List Nat} {op : Nat} {D : HD} (hf : FamR h f gv op D) (hw : Wok wd)
    (hq : ∀ h', Kv h h' → (∀ p, p < wd.length → VtR h' p (opn wd p)) → Q (.inl none) h') : Ev g mX9_openVotes [vR 4, vL (eC wd)] h Q := by
  have w10 := hw.1
  refine nX9_openVotes ?_
  refine Ex.wf (fun w => ?_)
  have lp : ∀ d p, p + d = wd.length → ∀ (h2 : AH), Kv h h2 → (∀ k, k < p → VtR h2 k (opn wd k)) → Ex g mX9_openVotes 2 [vR 4, vL (eC wd), vU, vI (nI p)] [] h2 (0, 0) Q := by
    intro d
    induction d with
    | zero =>
      intro p hp h2 kv vt
      have e : p = wd.length := by omega
      subst e
      refine rX9_openVotes_2 ?_
      simp only [bX9_openVotes_2, run, Nat.reduceAdd, lg, st1, st2, lkill, lset, fvv, sfv, kind3, cat1, retI, retA, List.length_cons, List.length_nil, true_and, and_true, or_true, true_or, qX9_openVotes]
      refine sX9_openVotes_4 (e_size hw ?_)
      simp only [cont, Option.toList, List.cons_append, List.nil_append]
      refine rX9_openVotes_7 ?_
      simp only [bX9_openVotes_7, run, Nat.reduceAdd, lg, st1, st2, lkill, lset, fvv, sfv, kind3, cat1, retI, retA, List.length_cons, List.length_nil, true_and, and_true, or_true, true_or, qX9_openVotes, show nI wd.length ≤ nI wd.length ↔ True from ⟨fun _ => trivial, fun _ => nI_le (Nat.le_refl _) (by omega)⟩, not_true_eq_false, not_false_eq_true, false_implies, true_and, and_true, tti]
      refine rX9_openVotes_39 ?_
      simp only [bX9_openVotes_39, run, Nat.reduceAdd, lg, st1, st2, lkill, lset, fvv, sfv, kind3, cat1, retI, retA, List.length_cons, List.length_nil, true_and, and_true, or_true, true_or, qX9_openVotes]
      exact hq h2 kv vt
    | succ d ih =>
      intro p hp h2 kv vt
      refine Ex.wf (fun w2 => ?_)
      have hp1 : p < wd.length := by omega
      have hp10 : p < 10 := by omega
      have fr := kv.fam w hf
      have v := fr.b.2.2.2.2.2.2.1
      have v0 := v.2 p hp10
      have km : (nI p).toNatClampNeg = p := nI_clamp (by omega)
      have vp := vp_in_nI hp10 (by omega : 10 < 2 ^ 31)
      refine rX9_openVotes_2 ?_
      simp only [bX9_openVotes_2, run, Nat.reduceAdd, lg, st1, st2, lkill, lset, fvv, sfv, kind3, cat1, retI, retA, List.length_cons, List.length_nil, true_and, and_true, or_true, true_or, qX9_openVotes]
      refine sX9_openVotes_4 (e_size hw ?_)
      simp only [cont, Option.toList, List.cons_append, List.nil_append]
      refine rX9_openVotes_7 ?_
      simp only [bX9_openVotes_7, run, Nat.reduceAdd, lg, st1, st2, lkill, lset, fvv, sfv, kind3, cat1, retI, retA, List.length_cons, List.length_nil, true_and, and_true, or_true, true_or, qX9_openVotes, show nI wd.length ≤ nI p ↔ False from ⟨nI_ge (by omega) (by omega), False.elim⟩, fr.b.1.1.1, fr.b.1.1.2.2.2.2.2.2.2.2.1, v.1, v0.1, km, not_true_eq_false, not_false_eq_true, false_implies, true_and, and_true, tti]
      refine ⟨vp, sX9_openVotes_16 v0.2.1 (e_clear v hp10 fun h3 k3 r3 _ kp3 vt3 => ?_)⟩
      simp only [cont, Option.toList, List.cons_append, List.nil_append]
      refine Ex.wf (fun w3 => ?_)
      have kv3 : Kv h2 h3 := ⟨k3, r3, kp3.mono fun a _ q => by omega⟩
      have fr3 := kv3.fam w2 fr
      have v3 := fr3.b.2.2.2.2.2.2.1
      have v30 := v3.2 p hp10
      refine rX9_openVotes_19 ?_
      simp only [bX9_openVotes_19, run, Nat.reduceAdd, lg, st1, st2, lkill, lset, fvv, sfv, kind3, cat1, retI, retA, List.length_cons, List.length_nil, true_and, and_true, or_true, true_or, qX9_openVotes, fr3.b.1.1.1, fr3.b.1.1.2.2.2.2.2.2.2.2.1, v3.1, v30.1, km, not_true_eq_false, not_false_eq_true, false_implies, true_and, and_true, tti]
      refine ⟨vp, sX9_openVotes_27 (e_at hw hp1 ?_)⟩
      simp only [cont, Option.toList, List.cons_append, List.nil_append]
      have s16 := hw.at p
      refine sX9_openVotes_30 v30.2.1 (e_vadd v3 hp10 (by omega) vt3 ?_)
      simp only [cont, Option.toList, List.cons_append, List.nil_append]
      refine rX9_openVotes_33 ?_
      simp only [bX9_openVotes_33, run, Nat.reduceAdd, lg, st1, st2, lkill, lset, fvv, sfv, kind3, cat1, retI, retA, List.length_cons, List.length_nil, true_and, and_true, or_true, true_or, qX9_openVotes, nI_1]
      have kp : Kp (fun a => a = 67 + 2 * p) h3 (sI h3 (67 + 2 * p) (wd.getD p 0) (nI (0 + 1))) := Kp.sI rfl
      refine ih (p + 1) (by omega) _ ((kv.tr kv3).tr ⟨rfl, rfl, kp.mono fun a _ q => by omega⟩) fun k hk => ?_
      by_cases e : k = p
      · subst e
        exact vt3.add (s := wd.getD k 0)
      · exact VtR.kp w3 v3 (by omega) kp (by omega) (VtR.kp w2 v (by omega) kp3 (by omega) (vt k (by omega)))
  refine rX9_openVotes_0 ?_
  simp only [bX9_openVotes_0, run, Nat.reduceAdd, lg, st1, st2, lkill, lset, fvv, sfv, kind3, cat1, retI, retA, List.length_cons, List.length_nil, true_and, and_true, or_true, true_or, qX9_openVotes]
  exact lp wd.length 0 (Nat.zero_add _) h Kv.rf fun k hk => absurd hk (Nat.not_lt_zero _)
theorem e_castVotes {g : Gp} {L : Nat} {cs : List (Nat × Nat)} {V : Nat → Nat → Nat} {h : AH} {Q : PQ} {f : Nat → Nat} {gv : Nat → List Nat} {op : Nat} {D : HD} (hf : FamR h f gv op D) (hL : L ≤ 10) (col : ColR h cs) (len : cs.length ≤ 20) (le : ∀ k, k < cs.length → (cs.getD k (0, 0)).1 ≤ 16 ∧ (cs.getD k (0, 0)).2 ≤ 16) (pl : ∀ k, k < cs.length → ¬ (cs.getD k (0, 0)).1 = 16 → ngp cs k < L) (vt : ∀ p, p < L → VtR h p (V p))
    (hq : ∀ h', Kv h h' → (∀ p, p < L → VtR h' p (cas cs V cs.length p)) → Q (.inl none) h') : Ev g mX9_castVotes [vR 4, vI (nI cs.length)] h Q := by
  refine nX9_castVotes ?_
  refine Ex.wf (fun w => ?_)
  have lp : ∀ d k, k + d = cs.length → ∀ (h2 : AH), Kv h h2 → ColR h2 cs → (∀ p, p < L → VtR h2 p (cas cs V k p)) → Ex g mX9_castVotes 4 [vR 4, vI (nI cs.length), vI (nI (ngp cs k)), vI (nI k)] [] h2 (0, 0) Q := by
    intro d
    induction d with
    | zero =>
      intro k hk h2 kv col2 vt2
      have e : k = cs.length := by omega
      subst e
      refine rX9_castVotes_4 ?_
      simp only [bX9_castVotes_4, run, Nat.reduceAdd, lg, st1, st2, lkill, lset, fvv, sfv, kind3, cat1, retI, retA, List.length_cons, List.length_nil, true_and, and_true, or_true, true_or, qX9_castVotes, show nI cs.length ≤ nI cs.length ↔ True from ⟨fun _ => trivial, fun _ => nI_le (Nat.le_refl _) (by omega)⟩, not_true_eq_false, not_false_eq_true, false_implies, true_and, and_true, tti]
      refine rX9_castVotes_54 ?_
      simp only [bX9_castVotes_54, run, Nat.reduceAdd, lg, st1, st2, lkill, lset, fvv, sfv, kind3, cat1, retI, retA, List.length_cons, List.length_nil, true_and, and_true, or_true, true_or, qX9_castVotes]
      exact hq h2 kv vt2
    | succ d ih =>
      intro k hk h2 kv col2 vt2
      refine Ex.wf (fun w2 => ?_)
      have hk1 : k < cs.length := by omega
      have fr := kv.fam w hf
      have al := fr.b.2.2.2.2.2.1
      obtain ⟨le1, le2⟩ := le k hk1
      have nx := ih (k + 1) (by omega)
      obtain ⟨-, -, -, -, -, -, -, f7, f8, -⟩ := fr.b.1.1
      refine rX9_castVotes_4 ?_
      simp only [bX9_castVotes_4, run, Nat.reduceAdd, lg, st1, st2, lkill, lset, fvv, sfv, kind3, cat1, retI, retA, List.length_cons, List.length_nil, true_and, and_true, or_true, true_or, qX9_castVotes, show nI cs.length ≤ nI k ↔ False from ⟨nI_ge (by omega) (by omega), False.elim⟩, fr.b.1.1.1, f7, not_true_eq_false, not_false_eq_true, false_implies, true_and, and_true, tti]
      refine sX9_castVotes_14 al.1 (e_upperAt al col2 hk1 len ?_)
      simp only [cont, Option.toList, List.cons_append, List.nil_append]
      by_cases e : (cs.getD k (0, 0)).1 = 16
      · rw [ngp, if_pos e, cas, if_pos e] at nx
        refine rX9_castVotes_17 ?_
        simp only [bX9_castVotes_17, run, Nat.reduceAdd, lg, st1, st2, lkill, lset, fvv, sfv, kind3, cat1, retI, retA, List.length_cons, List.length_nil, true_and, and_true, or_true, true_or, qX9_castVotes, e, show nI 16 = 16 from rfl, not_true_eq_false, not_false_eq_true, false_implies, true_and, and_true, tti]
        refine rX9_castVotes_48 ?_
        simp only [bX9_castVotes_48, run, Nat.reduceAdd, lg, st1, st2, lkill, lset, fvv, sfv, kind3, cat1, retI, retA, List.length_cons, List.length_nil, true_and, and_true, or_true, true_or, qX9_castVotes, nI_1]
        exact nx h2 kv col2 vt2
      · rw [ngp, if_neg e, cas, if_neg e] at nx
        have pL := pl k hk1 e
        generalize ngp cs k = p at nx pL
        have v := fr.b.2.2.2.2.2.2.1
        have v0 := v.2 p (by omega)
        refine rX9_castVotes_17 ?_
        simp only [bX9_castVotes_17, run, Nat.reduceAdd, lg, st1, st2, lkill, lset, fvv, sfv, kind3, cat1, retI, retA, List.length_cons, List.length_nil, true_and, and_true, or_true, true_or, qX9_castVotes, show nI (cs.getD k (0, 0)).1 = 16 ↔ False from ⟨fun q => e ((nI_eq (b := 16) (by omega) (by omega)).mp q), False.elim⟩, show (10 : Int32) ≤ nI p ↔ False from ⟨nI_ge (b := 10) (by omega) (by omega), False.elim⟩, fr.b.1.1.1, f7, f8, v.1, v0.1, show (nI p).toNatClampNeg = p from nI_clamp (by omega), not_true_eq_false, not_false_eq_true, false_implies, true_and, and_true, tti]
        refine ⟨vp_in_nI (by omega) (by omega), sX9_castVotes_39 al.1 (e_lowerAt al col2 hk1 len ?_)⟩
        simp only [cont, Option.toList, List.cons_append, List.nil_append]
        refine sX9_castVotes_42 v0.2.1 (e_vadd v (by omega) (by omega) (vt2 p pL) ?_)
        simp only [cont, Option.toList, List.cons_append, List.nil_append]
        refine rX9_castVotes_45 ?_
        simp only [bX9_castVotes_45, run, Nat.reduceAdd, lg, st1, st2, lkill, lset, fvv, sfv, kind3, cat1, retI, retA, List.length_cons, List.length_nil, true_and, and_true, or_true, true_or, qX9_castVotes, nI_1]
        have kp : Kp (fun a => a = 67 + 2 * p) h2 (sI h2 (67 + 2 * p) (cs.getD k (0, 0)).2 (nI (cas cs V k p (cs.getD k (0, 0)).2 + 1))) := Kp.sI rfl
        refine nx _ (kv.tr ⟨rfl, rfl, kp.mono fun a _ q => by omega⟩) (ColR.kp w2 al kp (by omega) (by omega) col2) fun p2 hp2 => ?_
        by_cases e2 : p2 = p
        · subst e2
          have t := (vt2 p2 pL).add (s := (cs.getD k (0, 0)).2)
          simp only [true_and]
          exact t
        · have t := VtR.kp w2 v (by omega) kp (by omega) (vt2 p2 hp2)
          simp only [e2, false_and, if_false]
          exact t
  refine rX9_castVotes_0 ?_
  simp only [bX9_castVotes_0, run, Nat.reduceAdd, lg, st1, st2, lkill, lset, fvv, sfv, kind3, cat1, retI, retA, List.length_cons, List.length_nil, true_and, and_true, or_true, true_or, qX9_castVotes]
  exact lp cs.length 0 (Nat.zero_add _) h Kv.rf col vt
/-- the word that is elected -/
def elc (V : Nat → Nat → Nat) : Nat → List Nat
  | 0 => []
  | p + 1 => if 0 < (wn (V p) 17).1 ∧ (wn (V p) 17).1 < 17 then elc V p ++ [(wn (V p) 17).1 - 1] else elc V p
theorem elc_ok {V : Nat → Nat → Nat} : ∀ p, (elc V p).length ≤ p ∧ ∀ s ∈ elc V p, s < 16
  | 0 => ⟨Nat.le_refl _, by simp [elc]⟩
  | p + 1 => by
    have ih := elc_ok (V := V) p
    unfold elc
    split
    · refine ⟨by simp; exact ih.1, fun s hs => ?_⟩
      rcases List.mem_append.mp hs with hs | hs
      · exact ih.2 s hs
      · have := List.mem_singleton.mp hs; omega
    · exact ⟨by omega, ih.2⟩
theorem elc_wok {V : Nat → Nat → Nat} {p : Nat} (hp : p ≤ 10) : Wok (elc V p) := ⟨Nat.le_trans (elc_ok p).1 hp, (elc_ok p).2⟩
theorem e_elected {g : Gp} {L : Nat} {V : Nat → Nat → Nat} {h : AH} {Q : PQ} {f : Nat → Nat} {gv : Nat → List Nat} {op : Nat} {D : HD} (hf : FamR h f gv op D) (hL : L ≤ 10) (vt : ∀ p, p < L → VtR h p (V p)) (hb : ∀ p s, V p s ≤ 1000000)
    (hq : Q (.inl (some (vL (eC (elc V L))))) h) : Ev g mX9_elected [vR 4, vI (nI L)] h Q := by
  refine nX9_elected ?_
  have v := hf.b.2.2.2.2.2.2.1
  obtain ⟨-, -, -, -, -, -, -, -, f8, -⟩ := hf.b.1.1
  have lp : ∀ d p, p + d = L → ∀ z : AV, Ex g mX9_elected 5 [vR 4, vI (nI L), vL (eC (elc V p)), vU, vI (nI p), z] [] h (0, 0) Q := by
    intro d
    induction d with
    | zero =>
      intro p hp z
      have e : p = L := by omega
      subst e
      refine rX9_elected_5 ?_
      simp only [bX9_elected_5, run, Nat.reduceAdd, lg, st1, st2, lkill, lset, fvv, sfv, kind3, cat1, retI, retA, List.length_cons, List.length_nil, true_and, and_true, or_true, true_or, qX9_elected, show nI p ≤ nI p ↔ True from ⟨fun _ => trivial, fun _ => nI_le (Nat.le_refl _) (by omega)⟩, not_true_eq_false, not_false_eq_true, false_implies, true_and, and_true, tti]
      refine rX9_elected_44 ?_
      simp only [bX9_elected_44, run, Nat.reduceAdd, lg, st1, st2, lkill, lset, fvv, sfv, kind3, cat1, retI, retA, List.length_cons, List.length_nil, true_and, and_true, or_true, true_or, qX9_elected]
      exact hq
    | succ d ih =>
      intro p hp z
      have hp1 : p < L := by omega
      have nx := ih (p + 1) (by omega)
      rw [elc] at nx
      have v0 := v.2 p (by omega)
      have lw := wn_le (V p) 17
      have ok := elc_ok (V := V) p
      refine rX9_elected_5 ?_
      simp only [bX9_elected_5, run, Nat.reduceAdd, lg, st1, st2, lkill, lset, fvv, sfv, kind3, cat1, retI, retA, List.length_cons, List.length_nil, true_and, and_true, or_true, true_or, qX9_elected, show nI L ≤ nI p ↔ False from ⟨nI_ge (by omega) (by omega), False.elim⟩, hf.b.1.1.1, f8, v.1, v0.1, show (nI p).toNatClampNeg = p from nI_clamp (by omega), not_true_eq_false, not_false_eq_true, false_implies, true_and, and_true, tti]
      refine ⟨vp_in_nI (by omega) (by omega), sX9_elected_18 v0.2.1 (e_winner v (by omega) (vt p hp1) (hb p) ?_)⟩
      simp only [cont, Option.toList, List.cons_append, List.nil_append]
      refine rX9_elected_21 ?_
      simp only [bX9_elected_21, run, Nat.reduceAdd, lg, st1, st2, lkill, lset, fvv, sfv, kind3, cat1, retI, retA, List.length_cons, List.length_nil, true_and, and_true, or_true, true_or, qX9_elected]
      refine sX9_elected_25 (e_isSound ?_)
      simp only [cont, Option.toList, List.cons_append, List.nil_append]
      by_cases e : 0 < (wn (V p) 17).1 ∧ (wn (V p) 17).1 < 17
      · rw [if_pos e] at nx
        obtain ⟨t, ht⟩ : ∃ t, (wn (V p) 17).1 = t + 1 := ⟨(wn (V p) 17).1 - 1, by omega⟩
        rw [ht] at nx e
        rw [ht, bI_s]
        refine rX9_elected_28 ?_
        simp only [bX9_elected_28, run, Nat.reduceAdd, lg, st1, st2, lkill, lset, fvv, sfv, kind3, cat1, retI, retA, List.length_cons, List.length_nil, true_and, and_true, or_true, true_or, qX9_elected, show bi (inb (nI t) 16) = 1 by rw [inb_n (by omega) (by decide), decide_eq_true (by omega)]; rfl, show ¬ (1 : Int32) = 0 by decide, not_true_eq_false, not_false_eq_true, false_implies, true_and, and_true, tti]
        refine sX9_elected_34 (e_plus (elc_wok (by omega)) (by omega) (by omega) ?_)
        simp only [cont, Option.toList, List.cons_append, List.nil_append]
        refine rX9_elected_37 ?_
        simp only [bX9_elected_37, run, Nat.reduceAdd, lg, st1, st2, lkill, lset, fvv, sfv, kind3, cat1, retI, retA, List.length_cons, List.length_nil, true_and, and_true, or_true, true_or, qX9_elected, nI_1]
        exact nx _
      · rw [if_neg e] at nx
        have b0 : bi (inb (bI (wn (V p) 17).1) 16) = 0 := by
          by_cases z0 : (wn (V p) 17).1 = 0
          · rw [z0]; decide
          · have z1 : (wn (V p) 17).1 = 17 := by omega
            rw [z1]; decide
        refine rX9_elected_28 ?_
        simp only [bX9_elected_28, run, Nat.reduceAdd, lg, st1, st2, lkill, lset, fvv, sfv, kind3, cat1, retI, retA, List.length_cons, List.length_nil, true_and, and_true, or_true, true_or, qX9_elected, b0, not_true_eq_false, not_false_eq_true, false_implies, true_and, and_true, tti]
        refine rX9_elected_38 ?_
        simp only [bX9_elected_38, run, Nat.reduceAdd, lg, st1, st2, lkill, lset, fvv, sfv, kind3, cat1, retI, retA, List.length_cons, List.length_nil, true_and, and_true, or_true, true_or, qX9_elected, nI_1]
        exact nx _
  refine rX9_elected_0 ?_
  simp only [bX9_elected_0, run, Nat.reduceAdd, lg, st1, st2, lkill, lset, fvv, sfv, kind3, cat1, retI, retA, List.length_cons, List.length_nil, true_and, and_true, or_true, true_or, qX9_elected]
  have z := lp L 0 (Nat.zero_add _) vU
  rw [elc, eC_nil] at z
  exact z
