theorem tel_brr {D : HD} {f : Nat → Nat} {gv : Nat → List Nat} {T : Nat → Cell3} {l m : Nat} : ∀ d, tel D f gv T l m ((D.2.2.1 l).length + d) = brr D.2.2.2 T l m (D.2.2.1 l).length (tel D f gv T l m (D.2.2.1 l).length) d
  | 0 => rfl
  | d + 1 => by
    rw [← Nat.add_assoc, tel, tel_brr d, brr]
    unfold lst
    rw [if_neg (by omega)]
theorem MC.val {k : Nat} {h : AH} {c : Cell3} (x : MC h k c) : MC (sL h 113 k (wM c.1)) k c := ⟨by rw [zL_sL, up1_s], x.2.1, x.2.2⟩
theorem e_mgrow {g : Gp} {f : Nat → Nat} {gv : Nat → List Nat} {D : HD} {l m : Nat} {h : AH} {Q : PQ} (md : MdB h f gv D) (hl : l < D.1) (hm : m < 12) (hT : ∀ k, k < l → MC h (k * 12 + m) (cel D f gv m k))
    (hq : ∀ h', Cw 113 (l * 12 + m) h h' → MC h' (l * 12 + m) (cel D f gv m l) → Q (.inl none) h') : Ev g mX10_grow [vR 99, vI (nI l), vI (nI m)] h Q := by
  have hdv := md.2.2.2.2
  obtain ⟨hD0, hD1, hD2, hD3, hD4, hD5⟩ := id hdv
  have gm := md.2.2.1 m hm
  have h8 := hD3 l hl
  refine nX10_grow ?_
  refine Ex.wf (fun w => ?_)
  have kk : (nI (l * 12 + m)).toNatClampNeg = l * 12 + m := nI_clamp (by omega)
  have vk := vp_in_nI (show l * 12 + m < 120 by omega) (by omega : 120 < 2 ^ 31)
  have kl : (nI l).toNatClampNeg = l := nI_clamp (by omega)
  have vl := vp_in_nI (show l < 10 by omega) (by omega : 10 < 2 ^ 31)
  have km : (nI m).toNatClampNeg = m := nI_clamp (by omega)
  have vm := vp_in_nI hm (by omega : 12 < 2 ^ 31)
  have eC : cel D f gv m l = tel D f gv (tbl D f gv m l) l m 9 := by
    show tbl D f gv m (l + 1) l = _
    rw [tbl, if_pos rfl]
  rw [eC] at hq
  have tT : ∀ k, k < l → tbl D f gv m l k = cel D f gv m k := fun k hk => tbl_cel hk
  have okT : ∀ k, k < l → cOk 12 9 (tbl D f gv m l k) := fun k hk => by rw [tT k hk]; exact cel_okv hdv gm.1 (by omega)
  have hT' : ∀ k, k < l → MC h (k * 12 + m) (tbl D f gv m l k) := fun k hk => by rw [tT k hk]; exact hT k hk
  generalize tbl D f gv m l = T at hq okT hT'
  have tok := tel_okv (f := f) (gv := gv) hdv hl okT gm.1
  have lp : ∀ d t, t + d = (D.2.2.1 l).length → ∀ (h2 : AH) (y z : AV), Cw 113 (l * 12 + m) h h2 → MC h2 (l * 12 + m) (tel D f gv T l m t) → Ex g mX10_grow 82 [vR 99, vI (nI l), vI (nI m), vI (nI (l * 12 + m)), vI (nI t), y, z] [] h2 (0, 0) Q := by
    intro d
    induction d with
    | zero =>
      intro t ht h2 y z cw mc
      have e : t = (D.2.2.1 l).length := by omega
      refine Ex.wf (fun w2 => ?_)
      have md2 := md.cw w cw
      have ms := md2.1
      have z3 := (md2.2.2.2.1.2.2.2.1 l hl).1
      have hT2 : ∀ k, k < l → MC h2 (k * 12 + m) (T k) ∧ Wok (T k).1 := fun k hk => ⟨(hT' k hk).cw cw (by omega), (okT k hk).1⟩
      rw [← e] at z3
      refine rX10_grow_82 ?_
      simp only [bX10_grow_82, run, Nat.reduceAdd, lg, st1, st2, lkill, lset, fvv, sfv, kind3, cat1, retI, retA, List.length_cons, List.length_nil, true_and, and_true, or_true, true_or, qX10_grow, ms.1, ms.R6, ms.K103, kl, z3, show nI t < nI t ↔ False from ⟨nI_nlt (by omega) (by omega), False.elim⟩, not_true_eq_false, not_false_eq_true, false_implies, true_and, and_true, tti]
      refine ⟨vl, vl, sX10_grow_116 ms.1 (e_mborrow md2 hl hm (show t ≤ 8 by omega) (Nat.le_refl _) hT2 mc fun h3 cw3 mc3 => ?_)⟩
      simp only [cont, Option.toList, List.cons_append, List.nil_append]
      have cw' := cw.tr cw3
      have md3 := md.cw w cw'
      have ms3 := md3.1
      have z33 := (md3.2.2.2.1.2.2.2.1 l hl).1
      rw [← e] at z33
      have tb := tel_brr (D := D) (f := f) (gv := gv) (T := T) (l := l) (m := m) (9 - t)
      rw [← e, show t + (9 - t) = 9 by omega] at tb
      refine rX10_grow_119 ?_
      simp only [bX10_grow_119, run, Nat.reduceAdd, lg, st1, st2, lkill, lset, fvv, sfv, kind3, cat1, retI, retA, List.length_cons, List.length_nil, true_and, and_true, or_true, true_or, qX10_grow, ms3.1, ms3.R6, ms3.K103, kl, z33, not_true_eq_false, not_false_eq_true, false_implies, true_and, and_true, tti]
      exact ⟨vl, hq h3 cw' (by rw [tb]; exact mc3)⟩
    | succ d ih =>
      intro t ht h2 y z cw mc
      refine Ex.wf (fun w2 => ?_)
      have nx := ih (t + 1) (by omega)
      rw [tel, lst, if_pos (by omega)] at nx
      have md2 := md.cw w cw
      have ms := md2.1
      have z3 := (md2.2.2.2.1.2.2.2.1 l hl).1
      have hT2 : ∀ k, k < l → MC h2 (k * 12 + m) (T k) ∧ Wok (T k).1 := fun k hk => ⟨(hT' k hk).cw cw (by omega), (okT k hk).1⟩
      have ne : nI t = nI (D.2.2.1 l).length ↔ False := ⟨fun q => by have := (nI_eq (by omega) (by omega)).mp q; omega, False.elim⟩
      refine rX10_grow_82 ?_
      simp only [bX10_grow_82, run, Nat.reduceAdd, lg, st1, st2, lkill, lset, fvv, sfv, kind3, cat1, retI, retA, List.length_cons, List.length_nil, true_and, and_true, or_true, true_or, qX10_grow, ms.1, ms.R6, ms.K103, kl, z3, show nI (D.2.2.1 l).length < nI t ↔ False from ⟨nI_nlt (by omega) (by omega), False.elim⟩, ne, not_true_eq_false, not_false_eq_true, false_implies, true_and, and_true, tti]
      refine ⟨vl, vl, ?_⟩
      refine rX10_grow_114 ?_
      simp only [bX10_grow_114, run, Nat.reduceAdd, lg, st1, st2, lkill, lset, fvv, sfv, kind3, cat1, retI, retA, List.length_cons, List.length_nil, true_and, and_true, or_true, true_or, qX10_grow]
      refine sX10_grow_116 ms.1 (e_mborrow md2 hl hm (Nat.le_refl _) (show t ≤ 8 by omega) hT2 mc fun h3 cw3 mc3 => ?_)
      simp only [cont, Option.toList, List.cons_append, List.nil_append]
      have cw' := cw.tr cw3
      have md3 := md.cw w cw'
      have ms3 := md3.1
      have z33 := (md3.2.2.2.1.2.2.2.1 l hl)
      rw [show t + 1 - t = 0 + 1 by omega, brr, brr, Nat.add_zero] at mc3
      have ok3 := brw_ok (t := t) (m := m) (ln := D.2.2.2) (T := T) (fun k hk => (okT k hk).1) (tok t) (fun i hi => hD5 i hi) _ hD4 (Nat.le_refl _)
      generalize brw D.2.2.2 T l m t D.2.2.2.length (tel D f gv T l m t) = c at nx mc3 ok3
      have key := wM_inj (gov_wok (f := f) (w := (D.2.2.1 l).getD t w0) ok3.1) ok3.1
      refine rX10_grow_119 ?_
      simp only [bX10_grow_119, run, Nat.reduceAdd, lg, st1, st2, lkill, lset, fvv, sfv, kind3, cat1, retI, retA, List.length_cons, List.length_nil, true_and, and_true, or_true, true_or, qX10_grow, ms3.1, ms3.R6, ms3.K103, kl, z33.1, ne, not_true_eq_false, not_false_eq_true, false_implies, true_and, and_true, tti]
      refine ⟨vl, ?_⟩
      refine rX10_grow_131 ?_
      simp only [bX10_grow_131, run, Nat.reduceAdd, lg, st1, st2, lkill, lset, fvv, sfv, kind3, cat1, retI, retA, List.length_cons, List.length_nil, true_and, and_true, or_true, true_or, qX10_grow, ms3.1, ms3.R17, ms3.K113, kk, mc3.1, mk_8, not_true_eq_false, not_false_eq_true, false_implies, true_and, and_true, tti]
      refine ⟨vk, sX10_grow_145 ms3.1 (e_mchanged ms3 md3.2.1 (z33.2 t (by omega)) (by omega) ok3.1 ?_)⟩
      simp only [cont, Option.toList, List.cons_append, List.nil_append]
      by_cases hsame : gov f ((D.2.2.1 l).getD t w0) c.1 = c.1
      · rw [if_pos hsame] at nx
        refine rX10_grow_148 ?_
        simp only [bX10_grow_148, run, Nat.reduceAdd, lg, st1, st2, lkill, lset, fvv, sfv, kind3, cat1, retI, retA, List.length_cons, List.length_nil, true_and, and_true, or_true, true_or, qX10_grow, ms3.1, ms3.R17, ms3.K113, kk, mc3.1, lg_cmp_eq, show wM (gov f ((D.2.2.1 l).getD t w0) c.1) = wM c.1 ↔ True from ⟨fun _ => trivial, fun _ => key.mpr hsame⟩, not_true_eq_false, not_false_eq_true, false_implies, true_and, and_true, tti]
        refine ⟨vk, ?_⟩
        refine rX10_grow_175 ?_
        simp only [bX10_grow_175, run, Nat.reduceAdd, lg, st1, st2, lkill, lset, fvv, sfv, kind3, cat1, retI, retA, List.length_cons, List.length_nil, true_and, and_true, or_true, true_or, qX10_grow, ms3.1, ms3.R17, ms3.K113, kk, nI_1, not_true_eq_false, not_false_eq_true, false_implies, true_and, and_true, tti]
        rw [hsame]
        exact ⟨vk, nx _ _ _ (cw'.tr Cw.wL) mc3.val⟩
      · rw [if_neg hsame] at nx
        refine rX10_grow_148 ?_
        simp only [bX10_grow_148, run, Nat.reduceAdd, lg, st1, st2, lkill, lset, fvv, sfv, kind3, cat1, retI, retA, List.length_cons, List.length_nil, true_and, and_true, or_true, true_or, qX10_grow, kL, kI, kD, kR, rL, rI, rD, iL, iD, iR, lI, lD, lR, ms3.1, ms3.R17, ms3.K113, ms3.R19, ms3.K115, kk, mc3.1, mc3.2.2, lg_cmp_eq, show wM (gov f ((D.2.2.1 l).getD t w0) c.1) = wM c.1 ↔ False from ⟨fun q => hsame (key.mp q), False.elim⟩, w_one t (by omega), fa_or, nI_1, not_true_eq_false, not_false_eq_true, false_implies, true_and, and_true, tti]
        refine ⟨vk, vk, vk, vk, nx _ _ _ (cw'.tr (Cw.wI2.tr Cw.wL)) ⟨?_, ?_, ?_⟩⟩
        · rw [zL_sL, up1_s]
        · rw [iL, zI_n (show 114 ≠ 115 by decide)]; exact mc3.2.1
        · rw [iL, zI_sI, up1_s]
  have ms := md.1
  have telz : tel D f gv T l m 0 = inh D gv T l m := rfl
  by_cases e0 : l = 0
  · have ei : inh D gv T l m = (gv m, 0, 0) := if_pos e0
    have st := lp (D.2.2.1 l).length 0 (Nat.zero_add _) (sI (sI (sL h 113 (l * 12 + m) (wM (gv m))) 114 (l * 12 + m) (-1)) 115 (l * 12 + m) 0) vU vU Cw.w3 (by rw [telz, ei]; exact MC.w3 rfl rfl rfl)
    refine rX10_grow_0 ?_
    simp only [bX10_grow_0, run, Nat.reduceAdd, lg, st1, st2, lkill, lset, fvv, sfv, kind3, cat1, retI, retA, List.length_cons, List.length_nil, true_and, and_true, or_true, true_or, qX10_grow, kL, kI, kD, kR, rL, rI, rD, iL, iD, iR, lI, lD, lR, mk_12, ms.1, ms.R17, ms.K113, ms.R2, ms.K101, ms.R18, ms.K114, ms.R19, ms.K115, kk, km, gm.2, show nI l = 0 ↔ True from ⟨fun _ => trivial, fun _ => by rw [e0]; rfl⟩, not_true_eq_false, not_false_eq_true, false_implies, true_and, and_true, tti]
    exact ⟨vm, vk, vk, vk, st⟩
  · have ei : inh D gv T l m = ((T (D.2.1 l)).1, (T (D.2.1 l)).2.1, 0) := if_neg e0
    have pl := hD2 l (by omega) hl
    have mp := hT' _ pl
    have st := lp (D.2.2.1 l).length 0 (Nat.zero_add _) (sI (sI (sL h 113 (l * 12 + m) (wM (T (D.2.1 l)).1)) 114 (l * 12 + m) (bI (T (D.2.1 l)).2.1)) 115 (l * 12 + m) 0) vU vU Cw.w3 (by rw [telz, ei]; exact MC.w3 rfl rfl rfl)
    have ne : nI l = 0 ↔ False := ⟨fun q => e0 ((nI_eq (b := 0) (by omega) (by omega)).mp q), False.elim⟩
    have p1 := md.2.2.2.1.2.2.1 l (by omega) hl
    have kp : (nI (D.2.1 l * 12 + m)).toNatClampNeg = D.2.1 l * 12 + m := nI_clamp (by omega)
    have vp := vp_in_nI (show D.2.1 l * 12 + m < 120 by omega) (by omega : 120 < 2 ^ 31)
    refine rX10_grow_0 ?_
    simp only [bX10_grow_0, run, Nat.reduceAdd, lg, st1, st2, lkill, lset, fvv, sfv, kind3, cat1, retI, retA, List.length_cons, List.length_nil, true_and, and_true, or_true, true_or, qX10_grow, mk_12, ms.1, ms.R17, ne, not_true_eq_false, not_false_eq_true, false_implies, true_and, and_true, tti]
    refine rX10_grow_25 ?_
    simp only [bX10_grow_25, run, Nat.reduceAdd, lg, st1, st2, lkill, lset, fvv, sfv, kind3, cat1, retI, retA, List.length_cons, List.length_nil, true_and, and_true, or_true, true_or, qX10_grow, kL, kI, kD, kR, rL, rI, rD, iL, iD, iR, lI, lD, lR, mk_12, ms.1, ms.R17, ms.K113, ms.R5, ms.K102, ms.R18, kk, kl, p1, kp, mp.1, ne, not_true_eq_false, not_false_eq_true, false_implies, true_and, and_true, tti]
    refine ⟨vl, vp, vk, ?_⟩
    refine rX10_grow_55 ?_
    simp only [bX10_grow_55, run, Nat.reduceAdd, lg, st1, st2, lkill, lset, fvv, sfv, kind3, cat1, retI, retA, List.length_cons, List.length_nil, true_and, and_true, or_true, true_or, qX10_grow, kL, kI, kD, kR, rL, rI, rD, iL, iD, iR, lI, lD, lR, mk_12, ms.1, ms.R18, ms.K114, ms.R5, ms.K102, ms.R19, ms.K115, kk, kl, p1, kp, mp.2.1, not_true_eq_false, not_false_eq_true, false_implies, true_and, and_true, tti]
    exact ⟨vl, vp, vk, vk, st⟩
/-- all words of a history are told -/
def SvR (h : AH) (f : Nat → Nat) (gv : Nat → List Nat) (D : HD) : Prop := ∀ l, l < D.1 → ∀ m, m < 12 → MC h (l * 12 + m) (cel D f gv m l)
theorem e_msolve {g : Gp} {f : Nat → Nat} {gv : Nat → List Nat} {D : HD} {h : AH} {Q : PQ} (md : MdB h f gv D)
    (hq : ∀ h', Kp (fun a => 113 ≤ a ∧ a ≤ 115) h h' → SvR h' f gv D → Q (.inl none) h') : Ev g mX10_solve [vR 99] h Q := by
  obtain ⟨hD0, hD1, -⟩ := md.2.2.2.2
  refine nX10_solve ?_
  refine Ex.wf (fun w => ?_)
  have lp : ∀ d l, l + d = D.1 → ∀ (h2 : AH) (y : AV), Kp (fun a => 113 ≤ a ∧ a ≤ 115) h h2 → (∀ k, k < l → ∀ m, m < 12 → MC h2 (k * 12 + m) (cel D f gv m k)) → Ex g mX10_solve 2 [vR 99, vI (nI l), y] [] h2 (0, 0) Q := by
    intro d
    induction d with
    | zero =>
      intro l hl h2 y kp sv
      have e : l = D.1 := by omega
      subst e
      have md2 := md.ms w (Ms.of w md.1 kp fun a q => by omega)
      refine rX10_solve_2 ?_
      simp only [bX10_solve_2, run, Nat.reduceAdd, lg, st1, st2, lkill, lset, fvv, sfv, kind3, cat1, retI, retA, List.length_cons, List.length_nil, true_and, and_true, or_true, true_or, qX10_solve, md2.1.1, md2.2.2.2.1.1, show nI D.1 ≤ nI D.1 ↔ True from ⟨fun _ => trivial, fun _ => nI_le (Nat.le_refl _) (by omega)⟩, not_true_eq_false, not_false_eq_true, false_implies, true_and, and_true, tti]
      refine rX10_solve_36 ?_
      simp only [bX10_solve_36, run, Nat.reduceAdd, lg, st1, st2, lkill, lset, fvv, sfv, kind3, cat1, retI, retA, List.length_cons, List.length_nil, true_and, and_true, or_true, true_or, qX10_solve]
      exact hq h2 kp sv
    | succ d ih =>
      intro l hl h2 y kp sv
      have nx := ih (l + 1) (by omega)
      have inner : ∀ d m, m + d = 12 → ∀ (h2 : AH), Kp (fun a => 113 ≤ a ∧ a ≤ 115) h h2 → (∀ k, k < l → ∀ m, m < 12 → MC h2 (k * 12 + m) (cel D f gv m k)) → (∀ j, j < m → MC h2 (l * 12 + j) (cel D f gv j l)) → Ex g mX10_solve 12 [vR 99, vI (nI l), vI (nI m)] [] h2 (0, 0) Q := by
        intro d
        induction d with
        | zero =>
          intro m hm h2 kp sv1 sv2
          have e : m = 12 := by omega
          subst e
          refine rX10_solve_12 ?_
          simp only [bX10_solve_12, run, Nat.reduceAdd, lg, st1, st2, lkill, lset, fvv, sfv, kind3, cat1, retI, retA, List.length_cons, List.length_nil, true_and, and_true, or_true, true_or, qX10_solve, show ((12 : Int32) ≤ nI 12) = True by decide, not_true_eq_false, not_false_eq_true, false_implies, true_and, and_true, tti]
          refine rX10_solve_30 ?_
          simp only [bX10_solve_30, run, Nat.reduceAdd, lg, st1, st2, lkill, lset, fvv, sfv, kind3, cat1, retI, retA, List.length_cons, List.length_nil, true_and, and_true, or_true, true_or, qX10_solve, nI_1]
          refine nx h2 _ kp fun k hk j hj => ?_
          by_cases e : k = l
          · subst e; exact sv2 j hj
          · exact sv1 k (by omega) j hj
        | succ d ih2 =>
          intro m hm h2 kp sv1 sv2
          have md2 := md.ms w (Ms.of w md.1 kp fun a q => by omega)
          have hm12 : m < 12 := by omega
          refine rX10_solve_12 ?_
          simp only [bX10_solve_12, run, Nat.reduceAdd, lg, st1, st2, lkill, lset, fvv, sfv, kind3, cat1, retI, retA, List.length_cons, List.length_nil, true_and, and_true, or_true, true_or, qX10_solve, show ((12 : Int32) ≤ nI m) ↔ False from ⟨nI_ge (b := 12) (by omega) (by omega), False.elim⟩, not_true_eq_false, not_false_eq_true, false_implies, true_and, and_true, tti]
          refine sX10_solve_21 md2.1.1 (e_mgrow md2 (by omega) hm12 (fun k hk => sv1 k hk m hm12) fun h3 cw3 mc3 => ?_)
          simp only [cont, Option.toList, List.cons_append, List.nil_append]
          refine rX10_solve_24 ?_
          simp only [bX10_solve_24, run, Nat.reduceAdd, lg, st1, st2, lkill, lset, fvv, sfv, kind3, cat1, retI, retA, List.length_cons, List.length_nil, true_and, and_true, or_true, true_or, qX10_solve, nI_1]
          refine ih2 (m + 1) (by omega) h3 (kp.tr (cw3.1.mono fun a _ q => ⟨by omega, by omega⟩)) (fun k hk j hj => (sv1 k hk j hj).cw cw3 (by omega)) fun j hj => ?_
          by_cases e : j = m
          · subst e; exact mc3
          · exact (sv2 j (by omega)).cw cw3 (by omega)
      have md2 := md.ms w (Ms.of w md.1 kp fun a q => by omega)
      refine rX10_solve_2 ?_
      simp only [bX10_solve_2, run, Nat.reduceAdd, lg, st1, st2, lkill, lset, fvv, sfv, kind3, cat1, retI, retA, List.length_cons, List.length_nil, true_and, and_true, or_true, true_or, qX10_solve, md2.1.1, md2.2.2.2.1.1, show nI D.1 ≤ nI l ↔ False from ⟨nI_ge (by omega) (by omega), False.elim⟩, not_true_eq_false, not_false_eq_true, false_implies, true_and, and_true, tti]
      exact inner 12 0 rfl h2 kp sv fun j hj => absurd hj (Nat.not_lt_zero _)
  refine rX10_solve_0 ?_
  simp only [bX10_solve_0, run, Nat.reduceAdd, lg, st1, st2, lkill, lset, fvv, sfv, kind3, cat1, retI, retA, List.length_cons, List.length_nil, true_and, and_true, or_true, true_or, qX10_solve]
  exact lp D.1 0 (Nat.zero_add _) h _ Kp.rf fun k hk => absurd hk (Nat.not_lt_zero _)
