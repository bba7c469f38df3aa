/-! ===== the family ===== -/
abbrev SP : Type := (Nat → Nat) × (Nat → List Nat) × Nat × HD
def noL (D : HD) : HD := (D.1, D.2.1, D.2.2.1, [])
def FamF (h : AH) : Prop := zK h 4 = (1, 9) ∧ zR h 4 0 = 5 ∧ zR h 4 1 = 24 ∧ zR h 4 3 = 29 ∧ zR h 4 4 = 31 ∧ zR h 4 5 = 36 ∧ zR h 4 6 = 43 ∧ zR h 4 7 = 48 ∧ zR h 4 8 = 65 ∧ zR h 4 9 = 86 ∧ zR h 29 0 = 25 ∧ zR h 29 1 = 30 ∧ zR h 37 0 = 25 ∧ zR h 37 1 = 38 ∧ zR h 31 0 = 29 ∧ zR h 36 0 = 37
def cwo (f : Nat → Nat) (a b : List Nat) : Option Nat := if a = [] ∨ b = [] then none else some (lc f a b)
def KcS (h : AH) : Prop := zK h 86 = (8, 12) ∧ ∀ m, m < 12 → zR h 86 m = 87 + m ∧ zK h (87 + m) = (2, 100)
def KcR (h : AH) (f : Nat → Nat) (gv : Nat → List Nat) (D : HD) : Prop := ∀ m, m < 12 → ∀ i j, i ≤ j → j < D.1 → zI h (87 + m) (i * 10 + j) = -2 ∨ zI h (87 + m) (i * 10 + j) = hI (cwo f (cel D f gv m i).1 (cel D f gv m j).1)
/-- the list of a language's laws -/
def lwA (h : AH) (l : Nat) : Nat := zR h (zR h (zR h 25 1) l) 1
def isL (h : AH) (n a : Nat) : Prop := a = 25 ∨ a = 30 ∨ ∃ l, l < n ∧ a = lwA h l
/-- no two lists are one, nor their rows -/
def Sep (h : AH) (n : Nat) : Prop := (∀ l k, l < n → k < n → lwA h l = lwA h k → l = k) ∧ (∀ l, l < n → lwA h l ≠ 25 ∧ lwA h l ≠ 30 ∧ lwA h l ≠ 38) ∧ ∀ a b, isL h n a → isL h n b → zR h a 1 = zR h b 1 → zR h a 1 ≠ 2 → a = b
def FamR (h : AH) (f : Nat → Nat) (gv : Nat → List Nat) (op : Nat) (D : HD) : Prop :=
  (FamF h ∧ zI h 4 2 = bI op ∧ op ≤ 12 ∧ hdOk D ∧ Sep h D.1) ∧ (Sn h f ∧ GvR h gv) ∧ (HsR h 29 D ∧ LxR h 31 32 D f gv) ∧ (HsR h 37 (noL D) ∧ LxR h 36 39 (noL D) f gv) ∧ LxS h 43 44 ∧ AlS h ∧ VtS h ∧ KcS h ∧ KcR h f gv D
abbrev K4 (h h' : AH) : Prop := Kp (fun b => b = 4) h h'
theorem K4.kh {h h' : AH} (k : zK h 4 = (1, 9)) (x : K4 h h') : Kh h h' := x.mono fun a _ e => by rw [e, k]; unfold hk; decide
theorem Kn.k4 {h h' : AH} (x : Kn h h') : K4 h h' := x.mono fun _ _ e => e.elim
theorem Kp.new {S T : Nat → Prop} {h h1 h2 : AH} (x : Kp S h h1) (y : Kp T h1 h2) (hT : ∀ a, a < zN h → T a → S a) : Kp S h h2 := x.tr2 y hT
theorem e_motherAlone {g : Gp} {h : AH} {Q : PQ} (hn : zN h = 25) (hq : ∀ h', zN h' = 29 → Kn h h' → LsR h' 25 28 [26] → LgR h' 26 0 [] → zR h' 26 1 = 27 → LsR h' 27 2 [] → Q (.inl (some (vR 25))) h') : Ev g mX9_motherAlone [] h Q := by
  refine nX9_motherAlone ?_
  refine Ex.wf (fun w => ?_)
  refine rX9_motherAlone_0 ?_
  simp only [bX9_motherAlone_0, run, Nat.reduceAdd, lg, st1, st2, lkill, lset, fvv, sfv, kind3, cat1, retI, retA, List.length_cons, List.length_nil, true_and, and_true, or_true, true_or, qX9_motherAlone, hn]
  refine ⟨by decide, by decide, sX9_motherAlone_4 (by decide) (l_init (by rw [zK_nwE, hn, if_pos rfl]) (by rw [zI_nwE, hn, if_pos rfl]) fun h1 ls1 kp1 n1 => ?_)⟩
  simp only [cont, Option.toList, List.cons_append, List.nil_append]
  have n1' : zN h1 = 26 := by rw [n1, zN_nw, hn]
  have k1 : Kn h h1 := (Kp.nw (S := fun _ => False) (h := h) (kd := (1, 0))).tr2 kp1 fun a ha e => by omega
  refine Ex.wf (fun w1 => ?_)
  refine rX9_motherAlone_7 ?_
  simp only [bX9_motherAlone_7, run, Nat.reduceAdd, lg, st1, st2, lkill, lset, fvv, sfv, kind3, cat1, retI, retA, List.length_cons, List.length_nil, true_and, and_true, or_true, true_or, qX9_motherAlone, n1']
  refine ⟨by decide, by decide, sX9_motherAlone_14 (by decide) (by decide) (e_langInit (by rw [zK_nwE, n1', if_pos rfl]) fun h2 n2 kp2 i2 r2 ls2 => ?_)⟩
  simp only [cont, Option.toList, List.cons_append, List.nil_append]
  rw [zN_nw, n1'] at n2 r2 ls2
  have k2 : Kn h1 h2 := (Kp.nw (S := fun _ => False) (h := h1) (kd := (1, 3))).tr2 kp2 fun a ha e => by omega
  have kc2 : zK h2 26 = (1, 3) := by rw [kp2.2.1 26 (by rw [zN_nw]; omega), zK_nwE, n1', if_pos rfl]
  refine Ex.wf (fun w2 => ?_)
  have ls1' := ls1.kh w1 k2.kh
  refine sX9_motherAlone_17 (by decide) ls1'.1 (l_add (ci := 3) ls1' (by decide) kc2 (fun y hy => absurd hy (by simp)) (show clt[3]? = some (RX2, TX2, 2) from rfl) cs_lg fun h3 ad => ?_)
  simp only [cont, Option.toList, List.cons_append, List.nil_append]
  refine Ex.wf (fun w3 => ?_)
  refine rX9_motherAlone_20 ?_
  simp only [bX9_motherAlone_20, run, Nat.reduceAdd, lg, st1, st2, lkill, lset, fvv, sfv, kind3, cat1, retI, retA, List.length_cons, List.length_nil, true_and, and_true, or_true, true_or, qX9_motherAlone]
  have k3 : Kn h h3 := by
    have k02 : Kn h h2 := k1.tr2 k2 fun a ha e => e
    exact k02.ad (by omega) (Or.inl rfl) ad
  obtain ⟨e3, ls3, he3, kp3, hn3⟩ := ad
  have hw3 : e3 = 28 ∧ zN h3 = 29 := by
    rcases ls3.2.2.2 with ⟨-, q⟩ | ⟨cap, q, -⟩
    · exact absurd q (by simp)
    · have := w3.lt q (by decide)
      have := w3.ge q (by decide)
      omega
  have s26 := kp3.2.2 26 (by omega) (by omega)
  have s27 := kp3.2.2 27 (by omega) (by omega)
  obtain ⟨l1, l2, l3, -⟩ := ls2
  have l27' : LsR h3 27 2 [] := ⟨(kp3.2.1 27 (by omega)).trans l1, by rw [s27.1]; exact l2, by rw [s27.2.2.2]; exact l3, Or.inl ⟨rfl, rfl⟩⟩
  rw [hw3.1] at ls3
  refine hq h3 hw3.2 k3 ls3 ⟨(kp3.2.1 26 (by omega)).trans kc2, by rw [s26.1]; exact i2, 2, [], ?_, rfl, fun i hi => absurd hi (by simp)⟩ (by rw [s26.2.2.2, r2]) l27'
  rw [s26.2.2.2, r2]
  exact l27'
theorem lr_room8 {g : Gp} {m : MethodId} {pc : Nat} {ls : Array Slot} {st : List Value} {rest : List AV} (h : ∃ ns : List Nat, rest = ns.map vR ∧ ns.length ≤ 8) : 2 * (F0 m pc ls st).monitorRoom + ((rest.map (tv g)).map fun v => v.category).sum ≤ 8 := by
  refine lv_room ?_
  obtain ⟨ns, rfl, h⟩ := h
  have hc : ∀ n : Nat, (tv g (vR n)).category = 1 := fun n => by
    show (rv g n).category = 1
    unfold rv
    split <;> rfl
  have : ∀ r : List Nat, (((r.map vR).map (tv g)).map fun v => v.category).sum = r.length := by
    intro r
    induction r with
    | nil => rfl
    | cons x r ih => simp only [List.map_cons, List.sum_cons, List.length_cons, ih, hc]; omega
  have := this ns
  omega
theorem Ex.callI8 {g : Gp} {M N : MD} {pc i x : Nat} {L rest av : List AV} {h : AH} {u : Nat × Nat} {Q Q' : PQ} (hM : mH M = []) (hN : MOk N av.length) (hcode : mH N = []) (hret : mR N = none) (hini : (mY N).name = "<init>") (hl : Cond.methodLink (mO M) i (mY N) ∈ lw_g) (hin : Cond.instanceMethod (mY N) ∈ lw_g) (hx0 : x ≠ 0) (hdp : mDp N + 1 ≤ mDp M) (h1 : u.1 + mC N ≤ mC M) (h2 : u.2 + mS N ≤ mS M) (hrest : ∃ ns : List Nat, rest = ns.map vR ∧ ns.length ≤ 8) (hd : decode (mB M) pc = .ok (.invokespecial i, 3))
    (ev : Ev g N (vR x :: av) h Q') (hk : ∀ v h', Q' (.inl v) h' → Ex g M (pc + 3) L (v.toList ++ rest) h' (u.1 + mC N, u.2 + mS N) Q) (hx : ∀ k h', Q' (.inr k) h' → Q (.inr k) h') : Ex g M pc L (av.reverse ++ vR x :: rest) h u Q := by
  intro p l e s m args below meth c H locs ls hC hR hS hL hl0 g1 g2
  obtain ⟨hX, hb, hrt, hml, how, hts, hlk, hnm, hK, hO, hlt, htb⟩ := id hC
  have hv : tv g (vR x) = .ref (adr g x) := by simp [tv, rv, hx0]
  refine Ex.fin (a := (Value.ref (adr g x) :: av.map (tv g)).toArray) (XK := fun k h' => Q (.inr k) h') hC hS hL hl0 h1 h2 ?_ hk hx (fun k h' H1 locs1 q ce z1 z2 z3 z4 z5 z6 => Ex.out hM hC h1 h2 z1 z2 z3 z4 z5 z6)
  have cb := callB_M hC hN hcode hl hdp
  rw [hret] at cb
  refine vx_runI (b := adr g x) (As := av.map (tv g)) (rest := rest.map (tv g)) ⟨hX, hb, hml, how, hts⟩ (ev l hlt) ⟨cb, hini, hts _ hin⟩ ⟨Pc.blind, fun U hU hW => ?_⟩ rfl (by simp) (by rw [← hl0]; exact hL.1) (by simp [hv]) (lr_room8 hrest) hd ⟨h1, h2⟩
  have := Pc.at (av := vR x :: av) hR hK hO hS U hU hW
  rw [List.map_cons, hv] at this
  exact this
theorem sX9_init_42' {g : Gp} {L : List AV} {ns : List Nat} {h : AH} {u : Nat × Nat} {Q : PQ} {x : Nat} (hx : x ≠ 0) (hr : ns.length ≤ 8) (ev : Ev g mJx4a65c_init_da8c8 (vR x :: []) h (cont g mX9_init 45 L (ns.map vR) u Q)) : Ex g mX9_init 42 L (vR x :: ns.map vR) h u Q := Ex.bud (fun w1 w2 => Ex.callI8 (av := []) rfl mJx4a65c_init_da8c8_ok rfl rfl rfl lkX9_32 imJx4a65c_init_da8c8 hx (by decide) w1 w2 ⟨ns, rfl, hr⟩ (by decide +kernel) ev (fun _ _ k => k) (fun _ _ z => z))
theorem sX9_init_88' {g : Gp} {L : List AV} {ns : List Nat} {h : AH} {u : Nat × Nat} {Q : PQ} {x : Nat} (hx : x ≠ 0) (hr : ns.length ≤ 8) (ev : Ev g mJx4a65c_init_da8c8 (vR x :: []) h (cont g mX9_init 91 L (ns.map vR) u Q)) : Ex g mX9_init 88 L (vR x :: ns.map vR) h u Q := Ex.bud (fun w1 w2 => Ex.callI8 (av := []) rfl mJx4a65c_init_da8c8_ok rfl rfl rfl lkX9_32 imJx4a65c_init_da8c8 hx (by decide) w1 w2 ⟨ns, rfl, hr⟩ (by decide +kernel) ev (fun _ _ k => k) (fun _ _ z => z))
/-- what the constructor has made, up to the lexicons -/
def Fi1 (h : AH) : Prop := Sn h (fun _ => 0) ∧ GvR h (fun _ => []) ∧ LsR h 25 28 [26] ∧ LgR h 26 0 [] ∧ zR h 26 1 = 27 ∧ LsR h 27 2 []
theorem Fi1.k4 {h h' : AH} (w : Wf h) (c : zK h 4 = (1, 9)) (k : K4 h h') (f : Fi1 h) : Fi1 h' :=
  ⟨f.1.kp w k (fun a q1 q2 q3 => by omega), f.2.1.kp w k (by decide), f.2.2.1.kh w (K4.kh c k), f.2.2.2.1.kh w (K4.kh c k), by rw [((K4.kh c k).sm w f.2.2.2.1.1 (Or.inr (Or.inr (Or.inr (Or.inl rfl))))).2.2.2.2]; exact f.2.2.2.2.1, f.2.2.2.2.2.kh w (K4.kh c k)⟩
def Hi (h : AH) (c a b : Nat) : Prop := zK h c = (1, 2) ∧ zR h c 0 = a ∧ zR h c 1 = b ∧ LsR h b 2 []
theorem Hi.k4 {h h' : AH} {c a b : Nat} (w : Wf h) (k4 : zK h 4 = (1, 9)) (k : K4 h h') (f : Hi h c a b) : Hi h' c a b := by
  obtain ⟨f1, f2, f3, f4⟩ := f
  obtain ⟨g1, -, -, -, g5⟩ := (K4.kh k4 k).sm w f1 (Or.inr (Or.inr (Or.inl rfl)))
  exact ⟨g1, by rw [g5]; exact f2, by rw [g5]; exact f3, f4.kh w (K4.kh k4 k)⟩
theorem AlS.kp {S : Nat → Prop} {h h' : AH} (w : Wf h) (k : Kp S h h') (hS : ¬ S 48 ∧ ¬ S 51) (f : AlS h) : AlS h' := by
  obtain ⟨x1, x2, x3, x4, x5, x6, x7, x8, x9, x10, x11, x12, x13⟩ := f
  have s := k.2.2 48 (w.lt x1 (by decide)) hS.1
  have t := k.2.2 51 (w.lt x10 (by decide)) hS.2
  refine ⟨k.kd w x1 (by decide), ?_, ?_, ?_, ?_, ?_, ?_, k.kd w x8 (by decide), k.kd w x9 (by decide), k.kd w x10 (by decide), k.kd w x11 (by decide), k.kd w x12 (by decide), fun i hi => ⟨by rw [t.2.2.2]; exact (x13 i hi).1, k.kd w (x13 i hi).2 (by decide)⟩⟩
  all_goals (rw [s.2.2.2]; assumption)
theorem VtS.kp {S : Nat → Prop} {h h' : AH} (w : Wf h) (k : Kp S h h') (hS : ¬ S 65 ∧ ∀ i, i < 10 → ¬ S (66 + 2 * i)) (f : VtS h) : VtS h' := by
  obtain ⟨x1, x2⟩ := f
  have s := k.2.2 65 (w.lt x1 (by decide)) hS.1
  refine ⟨k.kd w x1 (by decide), fun i hi => ?_⟩
  obtain ⟨y1, y2, y3, y4⟩ := x2 i hi
  have t := k.2.2 (66 + 2 * i) (w.lt y2 (by decide)) (hS.2 i hi)
  exact ⟨by rw [s.2.2.2]; exact y1, k.kd w y2 (by decide), by rw [t.2.2.2]; exact y3, k.kd w y4 (by decide)⟩
/-- a new lexicon: nothing is known in it -/
def Li (h : AH) (c b hs : Nat) : Prop := LxS h c b ∧ zR h c 0 = hs ∧ ∀ j, zI h (b + 3) j = 0
theorem Li.k4 {h h' : AH} {c b hs : Nat} (w : Wf h) (h4 : c ≠ 4) (k : K4 h h') (f : Li h c b hs) : Li h' c b hs := by
  obtain ⟨f1, f2, f3⟩ := f
  obtain ⟨g1, g2⟩ := f1.kp w k h4
  have b25 := f1.2.2.2.2.2.2.2.2.2.2.2.2
  have s := k.2.2 (b + 3) (w.lt f1.2.2.2.2.2.2.2.2.2.2.1 (by decide)) (by omega)
  exact ⟨g1, g2.trans f2, fun j => by rw [s.1]; exact f3 j⟩
theorem K4.sR {h h' : AH} {k v : Nat} (x : K4 h h') : K4 h (sR h' 4 k v) := Kp.tr x (Kp.sR rfl)
theorem K4.sI {h h' : AH} {k : Nat} {v : Int32} (x : K4 h h') : K4 h (sI h' 4 k v) := Kp.tr x (Kp.sI rfl)
theorem K4.nw {h h' : AH} {kd : Nat × Nat} (x : K4 h h') : K4 h (nw h' kd) := Kp.tr x Kp.nw
theorem e_famInit {g : Gp} {h : AH} {Q : PQ} (hc : zK h 4 = (1, 9)) (hn : zN h = 5) (hq : ∀ h', zN h' = 99 → FamR h' (fun _ => 0) (fun _ => []) 0 (1, fun _ => 0, fun _ => [], []) → Q (.inl none) h') : Ev g mX9_init [vR 4] h Q := by
  refine nX9_init ?_
  refine Ex.wf (fun w => ?_)
  refine rX9_init_0 ?_
  simp only [bX9_init_0, run, Nat.reduceAdd, lg, st1, st2, lkill, lset, fvv, sfv, kind3, cat1, retI, retA, List.length_cons, List.length_nil, true_and, and_true, or_true, true_or, qX9_init]
  refine sX9_init_1 (by decide) ?_
  refine rX9_init_4 ?_
  simp only [bX9_init_4, run, Nat.reduceAdd, lg, st1, st2, lkill, lset, fvv, sfv, kind3, cat1, retI, retA, List.length_cons, List.length_nil, true_and, and_true, or_true, true_or, qX9_init, hn]
  refine ⟨by decide, by decide, sX9_init_9 (by decide) (by decide) (e_soundsInit (by rw [zK_nwE, hn, if_pos rfl]) (by rw [zN_nw, hn]) fun h1 n1 kp1 sn1 => ?_)⟩
  simp only [cont, Option.toList, List.cons_append, List.nil_append]
  have c1 : zK h1 4 = (1, 9) := by rw [kp1.2.1 4 (by rw [zN_nw]; omega), zK_nwE, hn, if_neg (by decide)]; exact hc
  refine Ex.wf (fun w1 => ?_)
  refine rX9_init_12 ?_
  simp only [bX9_init_12, run, Nat.reduceAdd, lg, st1, st2, lkill, lset, fvv, sfv, kind3, cat1, retI, retA, List.length_cons, List.length_nil, true_and, and_true, or_true, true_or, qX9_init, c1, show (12 : Int32).toNatClampNeg = 12 by decide, kL, kI, kD, kR, rL, rI, rD, iL, iD, iR, lI, lD, lR, zN_nw, zN_sR, zK_nwE, n1, not_true_eq_false, not_false_eq_true, false_implies, true_and, and_true, tti]
  refine ⟨by decide, by decide, by decide, by decide, by decide, by decide, ?_⟩
  have n2 : zN (sI (sR (nw (sR h1 4 0 5) (3, 12)) 4 1 24) 4 2 (-1)) = 25 := by rw [zN_sI, zN_sR, zN_nw, zN_sR, n1]
  have k12 : K4 h1 (sI (sR (nw (sR h1 4 0 5) (3, 12)) 4 1 24) 4 2 (-1)) := (((Kp.sR (S := fun b => b = 4) (h := h1) (a := 4) (k := 0) (v := 5) rfl).tr (Kp.nw (kd := (3, 12)))).tr (Kp.sR (a := 4) (k := 1) (v := 24) rfl)).tr (Kp.sI (a := 4) (k := 2) (v := -1) rfl)
  have a2 : zK (sI (sR (nw (sR h1 4 0 5) (3, 12)) 4 1 24) 4 2 (-1)) 4 = (1, 9) ∧ zR (sI (sR (nw (sR h1 4 0 5) (3, 12)) 4 1 24) 4 2 (-1)) 4 0 = 5 ∧ zR (sI (sR (nw (sR h1 4 0 5) (3, 12)) 4 1 24) 4 2 (-1)) 4 1 = 24 ∧ zI (sI (sR (nw (sR h1 4 0 5) (3, 12)) 4 1 24) 4 2 (-1)) 4 2 = -1 := by
    refine ⟨?_, ?_, ?_, ?_⟩
    · simp [kL, kI, kD, kR, rL, rI, rD, iL, iD, iR, lI, lD, lR, zK_nwE, zN_sR, n1, c1]
    · simp [kL, kI, kD, kR, rL, rI, rD, iL, iD, iR, lI, lD, lR, zR_sRE, zR_nwE, zN_sR, n1, up1]
    · simp [kL, kI, kD, kR, rL, rI, rD, iL, iD, iR, lI, lD, lR, zR_sRE, zR_nwE, zN_sR, n1, up1]
    · simp [kL, kI, kD, kR, rL, rI, rD, iL, iD, iR, lI, lD, lR, zI_sIE, up1]
  have g2 : GvR (sI (sR (nw (sR h1 4 0 5) (3, 12)) 4 1 24) 4 2 (-1)) (fun _ => []) := by
    refine ⟨by simp [kL, kI, kD, kR, rL, rI, rD, iL, iD, iR, lI, lD, lR, zK_nwE, zN_sR, n1], fun m hm => ⟨wok_nil, ?_⟩⟩
    rw [eC_nil, lI, lR, zL_nwE, zN_sR, n1, if_pos rfl]
  generalize sI (sR (nw (sR h1 4 0 5) (3, 12)) 4 1 24) 4 2 (-1) = h2 at n2 k12 a2 g2 ⊢
  refine Ex.wf (fun w2 => ?_)
  refine sX9_init_28 (by decide) (e_motherAlone n2 fun h3 n3 k23 ls3 lg3 lg3' lg4 => ?_)
  simp only [cont, Option.toList, List.cons_append, List.nil_append]
  refine Ex.wf (fun w3 => ?_)
  have k13 : K4 h1 h3 := k12.tr k23.k4
  have s4 := k23.2.2 4 (by omega) id
  have f3 : Fi1 h3 := ⟨sn1.kp w1 k13 (fun a q1 q2 q3 => by omega), g2.kp w2 k23 id, ls3, lg3, lg3', lg4⟩
  have c3 : zK h3 4 = (1, 9) := (k23.2.1 4 (by omega)).trans a2.1
  have r3 : zR h3 4 = zR h2 4 := s4.2.2.2
  have i3 : zI h3 4 2 = -1 := by rw [s4.1]; exact a2.2.2.2
  have p0 : zR h3 4 0 = 5 := by rw [r3]; exact a2.2.1
  have p1 : zR h3 4 1 = 24 := by rw [r3]; exact a2.2.2.1
  clear k13 k23 ls3 lg3 k12 a2 g2 sn1 kp1 c1 s4 r3
  -- the first history
  refine rX9_init_31 ?_
  simp only [bX9_init_31, run, Nat.reduceAdd, lg, st1, st2, lkill, lset, fvv, sfv, kind3, cat1, retI, retA, List.length_cons, List.length_nil, true_and, and_true, or_true, true_or, qX9_init, n3, zN_nw]
  refine ⟨by decide, by decide, by decide, by decide, ?_⟩
  refine sX9_init_42' (ns := [30, 25, 29, 29, 4]) (by decide) (by decide) (l_init (by rw [zK_nwE, zN_nw, n3, if_pos rfl]) (by rw [zI_nwE, zN_nw, n3, if_pos rfl]) fun h4 ls4 kp4 n4 => ?_)
  simp only [cont, Option.toList, List.cons_append, List.nil_append]
  rw [zN_nw, zN_nw, n3] at n4
  have w3' : Wf (nw (nw h3 (1, 2)) (1, 0)) := wf_nw (wf_nw w3)
  have q29 : zK h4 29 = (1, 2) := by rw [kp4.2.1 29 (by rw [zN_nw, zN_nw, n3]; decide), zK_nwE, zN_nw, n3, if_neg (by decide), zK_nwE, n3, if_pos rfl]
  refine Ex.wf (fun w4 => ?_)
  show Ex g mX9_init 45 _ (vR 30 :: vR 25 :: vR 29 :: [vR 29, vR 4]) _ _ _
  refine sX9_init_45 (by decide) (e_histInit q29 (by decide) fun h5 n5 kp5 r50 r51 => ?_)
  simp only [cont, Option.toList, List.cons_append, List.nil_append]
  rw [n4] at n5
  have k35 : Kn h3 h5 := by
    have a1 : Kn h3 (nw (nw h3 (1, 2)) (1, 0)) := (Kp.nw (S := fun _ => False)).tr Kp.nw
    have a2 : Kn h3 h4 := a1.tr2 kp4 fun a ha e => by omega
    exact a2.tr2 kp5 fun a ha e => by omega
  have hi5 : Hi h5 29 25 30 := by
    refine ⟨(kp5.2.1 29 (by omega)).trans q29, r50, r51, ?_⟩
    have s := kp5.2.2 30 (by omega) (by decide)
    obtain ⟨l1, l2, l3, l4⟩ := ls4
    exact ⟨(kp5.2.1 30 (by omega)).trans l1, by rw [s.1]; exact l2, by rw [s.2.2.2]; exact l3, Or.inl ⟨rfl, rfl⟩⟩
  have f5 := f3.k4 w3 c3 k35.k4
  have s4 := k35.2.2 4 (by omega) id
  have c5 : zK h5 4 = (1, 9) := (k35.2.1 4 (by omega)).trans c3
  have i5 : zI h5 4 2 = -1 := by rw [s4.1]; exact i3
  rw [← s4.2.2.2] at p0 p1
  clear k35 q29 w3' ls4 kp4 kp5 s4 r50 r51 f3 c3 i3 w4 w3 w2 w1 w n4 n3 n2
  refine Ex.wf (fun w5 => ?_)
  -- the actual words
  have z5 : zR (nw (sR h5 4 3 29) (1, 5)) 4 = up1 (zR h5 4) 3 29 := by rw [zR_nwE, zN_sR, n5, if_neg (by decide), zR_sR]
  have z0 : up1 (zR h5 4) 3 29 0 = 5 := (up1_n _ _ (by decide)).trans p0
  have z1 : up1 (zR h5 4) 3 29 1 = 24 := (up1_n _ _ (by decide)).trans p1
  have z3 : up1 (zR h5 4) 3 29 3 = 29 := up1_s _ _ _
  have y5 : zK (nw (sR h5 4 3 29) (1, 5)) 4 = (1, 9) := by rw [zK_nwE, zN_sR, n5, if_neg (by decide)]; exact c5
  have y6 : zK (nw (sR h5 4 3 29) (1, 5)) 31 = (1, 5) := by rw [zK_nwE, zN_sR, n5, if_pos rfl]
  have n6 : zN (nw (sR h5 4 3 29) (1, 5)) = 32 := by rw [zN_nw, zN_sR, n5]
  have k6 : K4 h5 (nw (sR h5 4 3 29) (1, 5)) := K4.nw (K4.sR Kp.rf)
  have i6 : zI (nw (sR h5 4 3 29) (1, 5)) 4 2 = -1 := by rw [zI_nwE, zN_sR, n5, if_neg (by decide), iR]; exact i5
  refine rX9_init_48 ?_
  simp only [bX9_init_48, run, Nat.reduceAdd, lg, st1, st2, lkill, lset, fvv, sfv, kind3, cat1, retI, retA, List.length_cons, List.length_nil, true_and, and_true, or_true, true_or, qX9_init, c5, kL, kI, kD, kR, rL, rI, rD, iL, iD, iR, lI, lD, lR, zN_sR, n5, y5, z5, z0, z1, z3, not_true_eq_false, not_false_eq_true, false_implies, true_and, and_true, tti]
  refine ⟨by decide, by decide, ?_⟩
  generalize nw (sR h5 4 3 29) (1, 5) = h6 at z5 y5 y6 n6 k6 i6 ⊢
  refine sX9_init_68 (by decide) (by decide) (e_lexInit y6 fun h7 n7 kp7 q0 q1 q2 q3 q4 q5 q6 t0 t1 t2 t3 t4 => ?_)
  simp only [cont, Option.toList, List.cons_append, List.nil_append]
  rw [n6] at n7 q3 q4 q5 q6 t0 t1 t2 t3 t4
  have lx7 : Li h7 31 32 29 := ⟨⟨(kp7.2.1 31 (by omega)).trans y6, q1, q2, q3, q4, q5, q6, t0, t1, t2, t3, by decide, by decide⟩, q0, t4⟩
  have k57 : K4 h5 h7 := k6.tr2 kp7 fun a ha e => by omega
  have s4 := kp7.2.2 4 (by omega) (by decide)
  have f7 := f5.k4 w5 c5 k57
  have hi7 := hi5.k4 w5 c5 k57
  have c7 : zK h7 4 = (1, 9) := (kp7.2.1 4 (by omega)).trans y5
  have i7 : zI h7 4 2 = -1 := by rw [s4.1]; exact i6
  rw [← z5, ← s4.2.2.2] at z0 z1 z3
  clear k57 kp7 q0 q1 q2 q3 q4 q5 q6 t0 t1 t2 t3 t4 s4 f5 hi5 c5 i5 i6 k6 y5 y6 n6 p0 p1 w5 n5 z5
  refine Ex.wf (fun w7 => ?_)
  -- the words without loans
  have e7 : zN (sR h7 4 4 31) = 36 := by rw [zN_sR, n7]
  have y5 : zK (nw (nw (nw (sR h7 4 4 31) (1, 5)) (1, 2)) (1, 0)) 4 = (1, 9) := by simp only [zK_nwE, zN_nw, e7]; simp [kL, kI, kD, kR, rL, rI, rD, iL, iD, iR, lI, lD, lR, c7]
  have y6 : zK (nw (nw (nw (sR h7 4 4 31) (1, 5)) (1, 2)) (1, 0)) 36 = (1, 5) := by simp only [zK_nwE, zN_nw, e7]; simp
  have y7 : zK (nw (nw (nw (sR h7 4 4 31) (1, 5)) (1, 2)) (1, 0)) 37 = (1, 2) := by simp only [zK_nwE, zN_nw, e7]; simp
  have y8 : zK (nw (nw (nw (sR h7 4 4 31) (1, 5)) (1, 2)) (1, 0)) 38 = (1, 0) := by simp only [zK_nwE, zN_nw, e7]; simp
  have y9 : zI (nw (nw (nw (sR h7 4 4 31) (1, 5)) (1, 2)) (1, 0)) 38 2 = 0 := by rw [zI_nwE, zN_nw, zN_nw, e7, if_pos rfl]
  have z5 : zR (nw (nw (nw (sR h7 4 4 31) (1, 5)) (1, 2)) (1, 0)) 4 = up1 (zR h7 4) 4 31 := by simp only [zR_nwE, zN_nw, e7]; simp [zR_sR]
  have i6 : zI (nw (nw (nw (sR h7 4 4 31) (1, 5)) (1, 2)) (1, 0)) 4 2 = -1 := by rw [zI_nwE, zN_nw, zN_nw, e7, if_neg (by decide), zI_nwE, zN_nw, e7, if_neg (by decide), zI_nwE, e7, if_neg (by decide), iR]; exact i7
  have n6 : zN (nw (nw (nw (sR h7 4 4 31) (1, 5)) (1, 2)) (1, 0)) = 39 := by simp only [zN_nw, e7]
  have k6 : K4 h7 (nw (nw (nw (sR h7 4 4 31) (1, 5)) (1, 2)) (1, 0)) := K4.nw (K4.nw (K4.nw (K4.sR Kp.rf)))
  have w6 : Wf (nw (nw (nw (sR h7 4 4 31) (1, 5)) (1, 2)) (1, 0)) := wf_nw (wf_nw (wf_nw (h := sR h7 4 4 31) w7))
  refine rX9_init_71 ?_
  simp only [bX9_init_71, run, Nat.reduceAdd, lg, st1, st2, lkill, lset, fvv, sfv, kind3, cat1, retI, retA, List.length_cons, List.length_nil, true_and, and_true, or_true, true_or, qX9_init, c7, kL, kI, kD, kR, rL, rI, rD, iL, iD, iR, lI, lD, lR, e7, zN_nw, not_true_eq_false, not_false_eq_true, false_implies, true_and, and_true, tti]
  refine ⟨by decide, by decide, by decide, by decide, by decide, by decide, ?_⟩
  generalize nw (nw (nw (sR h7 4 4 31) (1, 5)) (1, 2)) (1, 0) = h8 at y5 y6 y7 y8 y9 z5 i6 n6 k6 w6 ⊢
  refine sX9_init_88' (ns := [38, 25, 37, 37, 36, 36, 4]) (by decide) (by decide) (l_init y8 y9 fun h9 ls9 kp9 n9 => ?_)
  simp only [cont, Option.toList, List.cons_append, List.nil_append]
  rw [n6] at n9
  show Ex g mX9_init 91 _ (vR 38 :: vR 25 :: vR 37 :: [vR 37, vR 36, vR 36, vR 4]) _ _ _
  refine sX9_init_91 (by decide) (e_histInit ((kp9.2.1 37 (by omega)).trans y7) (by decide) fun h10 n10 kp10 r0 r1 => ?_)
  simp only [cont, Option.toList, List.cons_append, List.nil_append]
  rw [n9] at n10
  have k810 : Kp (fun b => b = 38 ∨ b = 37) h8 h10 := (kp9.mono fun a _ e => Or.inl e).tr (kp10.mono fun a _ e => Or.inr e)
  have hi10 : Hi h10 37 25 38 := by
    refine ⟨(k810.2.1 37 (by omega)).trans y7, r0, r1, ?_⟩
    have s := kp10.2.2 38 (by omega) (by decide)
    obtain ⟨l1, l2, l3, l4⟩ := ls9
    exact ⟨(kp10.2.1 38 (by omega)).trans l1, by rw [s.1]; exact l2, by rw [s.2.2.2]; exact l3, Or.inl ⟨rfl, rfl⟩⟩
  have s4 := k810.2.2 4 (by omega) (by decide)
  have k710 : K4 h7 h10 := k6.tr2 k810 fun a ha e => by omega
  have f10 := f7.k4 w7 c7 k710
  have hj10 := hi7.k4 w7 c7 k710
  have lx10 := lx7.k4 w7 (by decide) k710
  have c10 : zK h10 4 = (1, 9) := (k810.2.1 4 (by omega)).trans y5
  have y36 : zK h10 36 = (1, 5) := (k810.2.1 36 (by omega)).trans y6
  have i10 : zI h10 4 2 = -1 := by rw [s4.1]; exact i6
  rw [← s4.2.2.2] at z5
  have p0 : zR h10 4 0 = 5 := by rw [z5]; exact (up1_n _ _ (by decide)).trans z0
  have p1 : zR h10 4 1 = 24 := by rw [z5]; exact (up1_n _ _ (by decide)).trans z1
  have p3 : zR h10 4 3 = 29 := by rw [z5]; exact (up1_n _ _ (by decide)).trans z3
  have p4 : zR h10 4 4 = 31 := by rw [z5]; exact up1_s _ _ _
  clear k710 k810 s4 kp9 kp10 r0 r1 ls9 f7 hi7 lx7 c7 i7 y5 y6 y7 y8 y9 i6 k6 w6 n6 w7 z0 z1 z3 z5 e7 n7 n9
  refine Ex.wf (fun w10 => ?_)
  refine rX9_init_94 ?_
  simp only [bX9_init_94, run, Nat.reduceAdd, lg, st1, st2, lkill, lset, fvv, sfv, kind3, cat1, retI, retA, List.length_cons, List.length_nil, true_and, and_true, or_true, true_or, qX9_init, c10, p0, p1, not_true_eq_false, not_false_eq_true, false_implies, true_and, and_true, tti]
  refine sX9_init_102 (by decide) (by decide) (e_lexInit y36 fun h11 n11 kp11 q0 q1 q2 q3 q4 q5 q6 t0 t1 t2 t3 t4 => ?_)
  simp only [cont, Option.toList, List.cons_append, List.nil_append]
  rw [n10] at n11 q3 q4 q5 q6 t0 t1 t2 t3 t4
  have ly11 : Li h11 36 39 37 := ⟨⟨(kp11.2.1 36 (by omega)).trans y36, q1, q2, q3, q4, q5, q6, t0, t1, t2, t3, by decide, by decide⟩, q0, t4⟩
  -- frames from before the lexicon was made are kept with it (36 is none of what is told)
  have f11 : Fi1 h11 := ⟨f10.1.kp w10 kp11 (fun a q1 q2 q3 => by omega), f10.2.1.kp w10 kp11 (by decide), f10.2.2.1.kh w10 (kp11.mono fun a _ e => by rw [e, y36]; unfold hk; decide), f10.2.2.2.1.kh w10 (kp11.mono fun a _ e => by rw [e, y36]; unfold hk; decide), by rw [(kp11.2.2 26 (w10.lt f10.2.2.2.1.1 (by decide)) (by decide)).2.2.2]; exact f10.2.2.2.2.1, f10.2.2.2.2.2.kh w10 (kp11.mono fun a _ e => by rw [e, y36]; unfold hk; decide)⟩
  have kh11 : Kh h10 h11 := kp11.mono fun a _ e => by rw [e, y36]; unfold hk; decide
  have hiT : ∀ c a b, Hi h10 c a b → Hi h11 c a b := fun c a b f => by
    obtain ⟨f1, f2, f3, f4⟩ := f
    obtain ⟨g1, -, -, -, g5⟩ := kh11.sm w10 f1 (Or.inr (Or.inr (Or.inl rfl)))
    exact ⟨g1, by rw [g5]; exact f2, by rw [g5]; exact f3, f4.kh w10 kh11⟩
  have hi11 := hiT _ _ _ hi10
  have hj11 := hiT _ _ _ hj10
  have lx11 : Li h11 31 32 29 := by
    obtain ⟨f1, f2, f3⟩ := lx10
    obtain ⟨g1, g2⟩ := f1.kp w10 kp11 (by decide)
    have s := kp11.2.2 35 (w10.lt f1.2.2.2.2.2.2.2.2.2.2.1 (by decide)) (by decide)
    exact ⟨g1, g2.trans f2, fun j => by rw [s.1]; exact f3 j⟩
  have s4 := kp11.2.2 4 (by omega) (by decide)
  have c11 : zK h11 4 = (1, 9) := (kp11.2.1 4 (by omega)).trans c10
  have i11 : zI h11 4 2 = -1 := by rw [s4.1]; exact i10
  rw [← s4.2.2.2] at p0 p1 p3 p4
  clear kp11 q0 q1 q2 q3 q4 q5 q6 t0 t1 t2 t3 t4 y36 s4 hiT kh11 f10 hi10 hj10 lx10 c10 i10 w10 n10
  refine Ex.wf (fun w11 => ?_)
  -- the supposed words
  have e7 : zN (sR h11 4 5 36) = 43 := by rw [zN_sR, n11]
  have y5 : zK (nw (sR h11 4 5 36) (1, 5)) 4 = (1, 9) := by rw [zK_nwE, e7, if_neg (by decide)]; exact c11
  have y6 : zK (nw (sR h11 4 5 36) (1, 5)) 43 = (1, 5) := by rw [zK_nwE, e7, if_pos rfl]
  have z5 : zR (nw (sR h11 4 5 36) (1, 5)) 4 = up1 (zR h11 4) 5 36 := by rw [zR_nwE, e7, if_neg (by decide), zR_sR]
  have i6 : zI (nw (sR h11 4 5 36) (1, 5)) 4 2 = -1 := by rw [zI_nwE, e7, if_neg (by decide), iR]; exact i11
  have n6 : zN (nw (sR h11 4 5 36) (1, 5)) = 44 := by rw [zN_nw, e7]
  have k6 : K4 h11 (nw (sR h11 4 5 36) (1, 5)) := K4.nw (K4.sR Kp.rf)
  have z0 : up1 (zR h11 4) 5 36 0 = 5 := (up1_n _ _ (by decide)).trans p0
  have z1 : up1 (zR h11 4) 5 36 1 = 24 := (up1_n _ _ (by decide)).trans p1
  have z3 : up1 (zR h11 4) 5 36 3 = 29 := (up1_n _ _ (by decide)).trans p3
  have z4 : up1 (zR h11 4) 5 36 4 = 31 := (up1_n _ _ (by decide)).trans p4
  refine rX9_init_105 ?_
  simp only [bX9_init_105, run, Nat.reduceAdd, lg, st1, st2, lkill, lset, fvv, sfv, kind3, cat1, retI, retA, List.length_cons, List.length_nil, true_and, and_true, or_true, true_or, qX9_init, c11, kL, kI, kD, kR, rL, rI, rD, iL, iD, iR, lI, lD, lR, e7, y5, z5, z0, z1, z3, not_true_eq_false, not_false_eq_true, false_implies, true_and, and_true, tti]
  refine ⟨by decide, by decide, ?_⟩
  generalize nw (sR h11 4 5 36) (1, 5) = h12 at z5 y5 y6 n6 k6 i6 ⊢
  refine sX9_init_125 (by decide) (by decide) (e_lexInit y6 fun h13 n13 kp13 q0 q1 q2 q3 q4 q5 q6 t0 t1 t2 t3 t4 => ?_)
  simp only [cont, Option.toList, List.cons_append, List.nil_append]
  rw [n6] at n13 q3 q4 q5 q6 t0 t1 t2 t3 t4
  have lz13 : LxS h13 43 44 := ⟨(kp13.2.1 43 (by omega)).trans y6, q1, q2, q3, q4, q5, q6, t0, t1, t2, t3, by decide, by decide⟩
  have k13 : K4 h11 h13 := k6.tr2 kp13 fun a ha e => by omega
  have s4 := kp13.2.2 4 (by omega) (by decide)
  have f13 := f11.k4 w11 c11 k13
  have hi13 := hi11.k4 w11 c11 k13
  have hj13 := hj11.k4 w11 c11 k13
  have lx13 := lx11.k4 w11 (by decide) k13
  have ly13 := ly11.k4 w11 (by decide) k13
  have c13 : zK h13 4 = (1, 9) := (kp13.2.1 4 (by omega)).trans y5
  have i13 : zI h13 4 2 = -1 := by rw [s4.1]; exact i6
  have p5 : zR h13 4 5 = 36 := by rw [s4.2.2.2, z5]; exact up1_s _ _ _
  rw [← z5, ← s4.2.2.2] at z0 z1 z3 z4
  clear k13 kp13 q0 q1 q2 q3 q4 q5 q6 t0 t1 t2 t3 t4 s4 f11 hi11 hj11 lx11 ly11 c11 i11 i6 k6 y5 y6 n6 e7 p0 p1 p3 p4 w11 n11 z5
  refine Ex.wf (fun w13 => ?_)
  -- the alignment
  have e7 : zN (sR h13 4 6 43) = 48 := by rw [zN_sR, n13]
  have y5 : zK (nw (sR h13 4 6 43) (1, 1)) 4 = (1, 9) := by rw [zK_nwE, e7, if_neg (by decide)]; exact c13
  have y6 : zK (nw (sR h13 4 6 43) (1, 1)) 48 = (1, 1) := by rw [zK_nwE, e7, if_pos rfl]
  have z5 : zR (nw (sR h13 4 6 43) (1, 1)) 4 = up1 (zR h13 4) 6 43 := by rw [zR_nwE, e7, if_neg (by decide), zR_sR]
  have i6 : zI (nw (sR h13 4 6 43) (1, 1)) 4 2 = -1 := by rw [zI_nwE, e7, if_neg (by decide), iR]; exact i13
  have n6 : zN (nw (sR h13 4 6 43) (1, 1)) = 49 := by rw [zN_nw, e7]
  have k6 : K4 h13 (nw (sR h13 4 6 43) (1, 1)) := K4.nw (K4.sR Kp.rf)
  have u0 : up1 (zR h13 4) 6 43 0 = 5 := (up1_n _ _ (by decide)).trans z0
  refine rX9_init_128 ?_
  simp only [bX9_init_128, run, Nat.reduceAdd, lg, st1, st2, lkill, lset, fvv, sfv, kind3, cat1, retI, retA, List.length_cons, List.length_nil, true_and, and_true, or_true, true_or, qX9_init, c13, kL, kI, kD, kR, rL, rI, rD, iL, iD, iR, lI, lD, lR, e7, y5, z5, u0, not_true_eq_false, not_false_eq_true, false_implies, true_and, and_true, tti]
  refine ⟨by decide, by decide, ?_⟩
  generalize nw (sR h13 4 6 43) (1, 1) = h14 at z5 y5 y6 n6 k6 i6 ⊢
  refine sX9_init_140 (by decide) (by decide) (e_alInit y6 fun h15 n15 kp15 q0 q1 q2 q5 q6 q7 t0 t1 t2 t14 t15 t3 => ?_)
  simp only [cont, Option.toList, List.cons_append, List.nil_append]
  rw [n6] at n15 q1 q2 q5 q6 q7 t0 t1 t2 t14 t15
  have al15 : AlS h15 := ⟨(kp15.2.1 48 (by omega)).trans y6, q0, q1, q2, q5, q6, q7, t0, t1, t2, t14, t15, fun i hi => by have := t3 i hi; rw [n6] at this; exact this⟩
  have k15 : K4 h13 h15 := k6.tr2 kp15 fun a ha e => by omega
  have s4 := kp15.2.2 4 (by omega) (by decide)
  have f15 := f13.k4 w13 c13 k15
  have hi15 := hi13.k4 w13 c13 k15
  have hj15 := hj13.k4 w13 c13 k15
  have lx15 := lx13.k4 w13 (by decide) k15
  have ly15 := ly13.k4 w13 (by decide) k15
  have lz15 := (lz13.kp w13 k15 (by decide)).1
  have c15 : zK h15 4 = (1, 9) := (kp15.2.1 4 (by omega)).trans y5
  have i15 : zI h15 4 2 = -1 := by rw [s4.1]; exact i6
  rw [← s4.2.2.2] at z5
  have p0 : zR h15 4 0 = 5 := by rw [z5]; exact u0
  have p1 : zR h15 4 1 = 24 := by rw [z5]; exact (up1_n _ _ (by decide)).trans z1
  have p3 : zR h15 4 3 = 29 := by rw [z5]; exact (up1_n _ _ (by decide)).trans z3
  have p4 : zR h15 4 4 = 31 := by rw [z5]; exact (up1_n _ _ (by decide)).trans z4
  have p5' : zR h15 4 5 = 36 := by rw [z5]; exact (up1_n _ _ (by decide)).trans p5
  have p6 : zR h15 4 6 = 43 := by rw [z5]; exact up1_s _ _ _
  clear k15 kp15 q0 q1 q2 q5 q6 q7 t0 t1 t2 t14 t15 t3 s4 f13 hi13 hj13 lx13 ly13 lz13 c13 i13 i6 k6 y5 y6 n6 e7 p5 w13 n13 z5 z0 z1 z3 z4 u0
  refine Ex.wf (fun w15 => ?_)
  -- the votes
  have e7 : zN (sR h15 4 7 48) = 65 := by rw [zN_sR, n15]
  have y4 : zK (sR h15 4 7 48) 4 = (1, 9) := c15
  have k16 : K4 h15 (sR h15 4 7 48) := K4.sR Kp.rf
  have w16 : Wf (sR h15 4 7 48) := w15
  have z5 : zR (sR h15 4 7 48) 4 = up1 (zR h15 4) 7 48 := zR_sR
  have i16 : zI (sR h15 4 7 48) 4 2 = -1 := i15
  refine rX9_init_143 ?_
  simp only [bX9_init_143, run, Nat.reduceAdd, lg, st1, st2, lkill, lset, fvv, sfv, kind3, cat1, retI, retA, List.length_cons, List.length_nil, true_and, and_true, or_true, true_or, qX9_init, c15, not_true_eq_false, not_false_eq_true, false_implies, true_and, and_true, tti]
  generalize sR h15 4 7 48 = h16 at e7 y4 k16 w16 z5 i16 ⊢
  show Ex g mX9_init 149 _ _ _ (60, 1672) Q
  refine x_anewarray (t := 7) (N := 10) (i := 64) (Or.inr rfl) (lg_mem (by decide +kernel) rfl) (ln_mem (by decide +kernel) rfl) (by decide) (by decide) (by decide) (by decide) (by decide) (by decide +kernel) ?_
  have y6 : zK (sR (nw h16 (7, 10)) 4 8 65) 4 = (1, 9) := by rw [kR, zK_nwE, e7, if_neg (by decide)]; exact y4
  have y7 : zK (sR (nw h16 (7, 10)) 4 8 65) 65 = (7, 10) := by rw [kR, zK_nwE, e7, if_pos rfl]
  have k17 : K4 h15 (sR (nw h16 (7, 10)) 4 8 65) := K4.sR (K4.nw k16)
  have z6 : zR (sR (nw h16 (7, 10)) 4 8 65) 4 = up1 (up1 (zR h15 4) 7 48) 8 65 := by rw [zR_sR, zR_nwE, e7, if_neg (by decide), z5]
  have i17 : zI (sR (nw h16 (7, 10)) 4 8 65) 4 2 = -1 := by rw [iR, zI_nwE, e7, if_neg (by decide)]; exact i16
  have n17 : zN (sR (nw h16 (7, 10)) 4 8 65) = 66 := by rw [zN_sR, zN_nw, e7]
  have w17 : Wf (sR (nw h16 (7, 10)) 4 8 65) := wf_nw (h := h16) w16
  rw [e7]
  refine rX9_init_152 ?_
  simp only [bX9_init_152, run, Nat.reduceAdd, lg, st1, st2, lkill, lset, fvv, sfv, kind3, cat1, retI, retA, List.length_cons, List.length_nil, true_and, and_true, or_true, true_or, qX9_init, zK_nwE, e7, show ((4 : Nat) = 65) = False from eq_false (by decide), if_false, y4, not_true_eq_false, not_false_eq_true, false_implies, true_and, and_true, tti]
  generalize sR (nw h16 (7, 10)) 4 8 65 = h17 at y6 y7 k17 z6 i17 n17 w17 ⊢
  clear e7 y4 k16 w16 z5 i16
  have z8 : up1 (up1 (zR h15 4) 7 48) 8 65 8 = 65 := up1_s _ _ _
  have lpV : ∀ d i h2, i + d = 10 → zN h2 = 66 + 2 * i → Kp (fun b => b = 65) h17 h2 → zK h2 65 = (7, 10) → (∀ j, j < i → zR h2 65 j = 66 + 2 * j ∧ zK h2 (66 + 2 * j) = (1, 8) ∧ zR h2 (66 + 2 * j) 0 = 67 + 2 * j ∧ zK h2 (67 + 2 * j) = (2, 17)) →
      (∀ h3, zN h3 = 86 → Kp (fun b => b = 65) h17 h3 → VtS h3 → Ex g mX9_init 182 [vR 4, vR 25, vI 10] [] h3 (81, 1862) Q) → Ex g mX9_init 157 [vR 4, vR 25, vI (nI i)] [] h2 (61 + 2 * i, 1682 + 18 * i) Q := by
    intro d
    induction d with
    | zero =>
      intro i h2 hi n2 kp k65 vs fin
      have e : i = 10 := by omega
      subst e
      refine rX9_init_157 ?_
      simp only [bX9_init_157, run, Nat.reduceAdd, lg, st1, st2, lkill, lset, fvv, sfv, kind3, cat1, retI, retA, List.length_cons, List.length_nil, true_and, and_true, or_true, true_or, qX9_init, show ((10 : Int32) ≤ nI 10) ↔ True from ⟨fun _ => trivial, fun _ => by decide⟩, not_true_eq_false, not_false_eq_true, false_implies, true_and, and_true, tti]
      exact fin h2 n2 kp ⟨k65, vs⟩
    | succ d ih =>
      intro i h2 hi n2 kp k65 vs fin
      refine Ex.wf (fun w2 => ?_)
      have nle : (10 : Int32) ≤ nI i ↔ False := ⟨nI_ge (b := 10) (by omega) (by omega), False.elim⟩
      have s4 := kp.2.2 4 (by omega) (by decide)
      have c4 : zK h2 4 = (1, 9) := (kp.2.1 4 (by omega)).trans y6
      have r8 : zR h2 4 8 = 65 := by rw [s4.2.2.2, z6]; exact z8
      refine rX9_init_157 ?_
      simp only [bX9_init_157, run, Nat.reduceAdd, lg, st1, st2, lkill, lset, fvv, sfv, kind3, cat1, retI, retA, List.length_cons, List.length_nil, true_and, and_true, or_true, true_or, qX9_init, nle, c4, r8, n2, not_true_eq_false, not_false_eq_true, false_implies, true_and, and_true, tti]
      refine ⟨by show 61 + 2 * i + 1 ≤ 94; omega, by show 1682 + 18 * i + 1 ≤ 3074; omega, sX9_init_172 (by show 61 + 2 * i + 1 + 1 ≤ 94 ∧ 1682 + 18 * i + 1 + 17 ≤ 3074; omega) (by omega) (e_votesInit (by rw [zK_nwE, n2, if_pos rfl]) fun h3 n3 kp3 r3 k3 => ?_)⟩
      simp only [cont, Option.toList, List.cons_append, List.nil_append]
      rw [zN_nw, n2] at n3 r3 k3
      rw [show 66 + 2 * i + 1 = 67 + 2 * i by omega] at r3 k3
      have k23 : Kn h2 h3 := (Kp.nw (S := fun _ => False) (h := h2) (kd := (1, 8))).tr2 kp3 fun a ha e => by omega
      have kv : zK h3 (66 + 2 * i) = (1, 8) := by rw [kp3.2.1 _ (by rw [zN_nw]; omega), zK_nwE, n2, if_pos rfl]
      have k65' : zK h3 65 = (7, 10) := (k23.2.1 65 (by omega)).trans k65
      refine x_aastore k65' (vp_in_nI (by omega) (by omega)) kv (show clt[8]? = some (RX7, TX7, 1) from rfl) (Or.inr ⟨rfl, rfl⟩) (by decide +kernel) ?_
      rw [nI_clamp (by omega)]
      refine rX9_init_176 ?_
      simp only [bX9_init_176, run, Nat.reduceAdd, lg, st1, st2, lkill, lset, fvv, sfv, kind3, cat1, retI, retA, List.length_cons, List.length_nil, true_and, and_true, or_true, true_or, qX9_init, nI_1]
      have key := ih (i + 1) (sR h3 65 i (66 + 2 * i)) (by omega) (by rw [zN_sR, n3]; omega) ((kp.tr2 k23 fun a ha e => e.elim).tr (Kp.sR rfl)) k65' (fun j hj => ?_) fin
      · exact key
      · rw [zR_sR, kR]
        by_cases e : j = i
        · subst e
          rw [up1_s]
          refine ⟨rfl, kv, ?_, k3⟩
          rw [zR_n (by omega)]
          exact r3
        · rw [up1_n _ _ e, zR_n (by omega)]
          obtain ⟨v1, v2, v3, v4⟩ := vs j (by omega)
          have t1 := k23.2.2 65 (by omega) id
          have t2 := k23.2.2 (66 + 2 * j) (by omega) id
          exact ⟨by rw [t1.2.2.2]; exact v1, (k23.2.1 _ (by omega)).trans v2, by rw [t2.2.2.2]; exact v3, (k23.2.1 _ (by omega)).trans v4⟩
  refine lpV 10 0 h17 rfl n17 Kp.rf y7 (fun j hj => absurd hj (Nat.not_lt_zero _)) fun h18 n18 kp18 vt18 => ?_
  refine Ex.wf (fun w18 => ?_)
  have k1518 : K4 h15 h18 := k17.tr2 kp18 fun a ha e => by omega
  have s18 := kp18.2.2 4 (by omega) (by decide)
  have c18 : zK h18 4 = (1, 9) := (kp18.2.1 4 (by omega)).trans y6
  have z18 : zR h18 4 = up1 (up1 (zR h15 4) 7 48) 8 65 := by rw [s18.2.2.2]; exact z6
  have i18 : zI h18 4 2 = -1 := by rw [s18.1]; exact i17
  clear lpV s18 kp18 k17 y6 z6 i17
  refine rX9_init_182 ?_
  simp only [bX9_init_182, run, Nat.reduceAdd, lg, st1, st2, lkill, lset, fvv, sfv, kind3, cat1, retI, retA, List.length_cons, List.length_nil, true_and, and_true, or_true, true_or, qX9_init]
  refine x_mna (i := 71) (N := 12) (K := 100) (lg_mem (by decide +kernel) rfl) ln_aoI lg_acI (by decide) (by decide) (by decide) (by decide) (by decide) (by decide) (by decide) (by decide) (by decide +kernel) ?_
  have q1 : zK (sR (nwm h18 12 100) 4 9 86) 86 = (8, 12) := by rw [kR, zK_nwm, n18, if_pos rfl]
  have q2 : ∀ m, m < 12 → zR (sR (nwm h18 12 100) 4 9 86) 86 m = 87 + m ∧ zK (sR (nwm h18 12 100) 4 9 86) (87 + m) = (2, 100) := fun m hm => by
    have := zR_nwm (h := h18) (n := 12) (k := 100) hm
    rw [n18] at this
    exact ⟨by rw [zR_n (by decide), this], by rw [kR, zK_nwm, n18, if_neg (by omega), if_pos (by omega)]⟩
  have sm := (Kp.nwm (S := fun _ => False) (h := h18) (n := 12) (k := 100))
  have k19 : K4 h18 (sR (nwm h18 12 100) 4 9 86) := K4.sR (Kn.k4 sm)
  have n19 : zN (sR (nwm h18 12 100) 4 9 86) = 99 := by rw [zN_sR, zN_nwm, n18]
  have c19 : zK (nwm h18 12 100) 4 = (1, 9) := (sm.2.1 4 (by omega)).trans c18
  have z19 : zR (sR (nwm h18 12 100) 4 9 86) 4 = up1 (up1 (up1 (zR h15 4) 7 48) 8 65) 9 86 := by rw [zR_sR, (sm.2.2 4 (by omega) id).2.2.2, z18]
  have i19 : zI (sR (nwm h18 12 100) 4 9 86) 4 2 = -1 := by rw [iR, (sm.2.2 4 (by omega) id).1]; exact i18
  rw [n18]
  refine rX9_init_191 ?_
  simp only [bX9_init_191, run, Nat.reduceAdd, lg, st1, st2, lkill, lset, fvv, sfv, kind3, cat1, retI, retA, List.length_cons, List.length_nil, true_and, and_true, or_true, true_or, qX9_init, c19, not_true_eq_false, not_false_eq_true, false_implies, true_and, and_true, tti]
  have c20 : zK (sR (nwm h18 12 100) 4 9 86) 4 = (1, 9) := c19
  generalize sR (nwm h18 12 100) 4 9 86 = h19 at q1 q2 k19 n19 z19 i19 c20 ⊢
  clear sm c19 c18 z18 i18
  have r9 : up1 (up1 (up1 (zR h15 4) 7 48) 8 65) 9 86 9 = 86 := up1_s _ _ _
  have lp : ∀ d m h2, m + d = 12 → zK h2 = zK h19 → zR h2 = zR h19 → zN h2 = 99 → Kp (fun b => 87 ≤ b) h19 h2 → (∀ a j, a < m → j < 100 → zI h2 (87 + a) j = -2) → Ex g mX9_init 196 [vR 4, vR 25, vI (nI m)] [] h2 (94, 3074) Q := by
    intro d
    induction d with
    | zero =>
      intro m h2 hm ek er n2 kp fl
      have e : m = 12 := by omega
      subst e
      refine rX9_init_196 ?_
      simp only [bX9_init_196, run, Nat.reduceAdd, lg, st1, st2, lkill, lset, fvv, sfv, kind3, cat1, retI, retA, List.length_cons, List.length_nil, true_and, and_true, or_true, true_or, qX9_init, show ((12 : Int32) ≤ nI 12) ↔ True from ⟨fun _ => trivial, fun _ => by decide⟩, not_true_eq_false, not_false_eq_true, false_implies, true_and, and_true, tti]
      refine rX9_init_219 ?_
      simp only [bX9_init_219, run, Nat.reduceAdd, lg, st1, st2, lkill, lset, fvv, sfv, kind3, cat1, retI, retA, List.length_cons, List.length_nil, true_and, and_true, or_true, true_or, qX9_init]
      have k182 : K4 h18 h2 := k19.tr2 kp fun a ha e => by omega
      have k152 : K4 h15 h2 := k1518.tr k182
      obtain ⟨sn, gr, l25, l26, l27, l27'⟩ := f15.k4 w15 c15 k152
      obtain ⟨a1, a2, a3, a4⟩ := hi15.k4 w15 c15 k152
      obtain ⟨b1, b2, b3, b4⟩ := hj15.k4 w15 c15 k152
      obtain ⟨x1, x2, x3⟩ := lx15.k4 w15 (by decide) k152
      obtain ⟨y1, y2, y3⟩ := ly15.k4 w15 (by decide) k152
      have lz := (lz15.kp w15 k152 (by decide)).1
      have al := al15.kp w15 k152 ⟨by decide, by decide⟩
      have vt := vt18.kp w18 k182 ⟨by decide, fun i hi => by omega⟩
      have lgs : LgsR h2 25 1 (fun _ => 0) (fun _ => []) := ⟨28, [26], l25, rfl, fun l hl => by
        have e0 : l = 0 := Nat.lt_one_iff.mp hl
        subst e0
        exact l26⟩
      refine hq h2 n2 ⟨⟨?_, ?_, by decide, ?_⟩, ⟨sn, gr⟩, ⟨⟨b1, by rw [b2]; exact lgs, by rw [b3]; exact ⟨2, [], b4, rfl, fun i hi => absurd hi (by simp)⟩⟩, ⟨x1, fun m hm => Or.inl (x3 m)⟩⟩, ⟨⟨a1, by rw [a2]; exact lgs, by rw [a3]; exact ⟨2, [], a4, rfl, fun i hi => absurd hi (by simp [noL])⟩⟩, ⟨y1, fun m hm => Or.inl (y3 m)⟩⟩, lz, al, vt, ⟨by rw [ek]; exact q1, fun m hm => by rw [er, ek]; exact q2 m hm⟩, fun m hm i j hij hj => Or.inl (fl m _ hm (by show i * 10 + j < 100; have : j < 1 := hj; omega))⟩
      · unfold FamF
        rw [ek, er, z19]
        rw [er] at b2 b3 a2 a3 x2 y2
        refine ⟨c20, ?_, ?_, ?_, ?_, ?_, ?_, ?_, ?_, ?_, b2, b3, a2, a3, x2, y2⟩
        · simp [up1, p0]
        · simp [up1, p1]
        · simp [up1, p3]
        · simp [up1, p4]
        · simp [up1, p5']
        · simp [up1, p6]
        · simp [up1]
        · simp [up1]
        · simp [up1]
      · rw [(kp.2.2 4 (by omega) (by omega)).1]; exact i19
      · refine ⟨⟨Nat.le_refl _, by decide, fun l h1 h2 => absurd (show l < 1 from h2) (by omega), fun _ _ => by simp, by simp, fun i hi => absurd hi (by simp)⟩, ?_⟩
        have e28 : zR h2 25 1 = 28 := l25.2.2.1
        have e26 : zR h2 28 0 = 26 := by
          rcases l25.2.2.2 with ⟨-, q⟩ | ⟨cap, -, -, -, q⟩
          · exact absurd q (by simp)
          · exact q 0 (by decide)
        have e27 : lwA h2 0 = 27 := by unfold lwA; rw [e28, e26, l27]
        have e30 : zR h2 30 1 = 2 := b4.2.2.1
        refine ⟨fun l k h1 h2 _ => ?_, fun l hl => ?_, fun a b ia ib e ne => ?_⟩
        · rw [Nat.lt_one_iff.mp h1, Nat.lt_one_iff.mp h2]
        · rw [Nat.lt_one_iff.mp hl, e27]; decide
        · have q27 : zR h2 27 1 = 2 := l27'.2.2.1
          have cs : ∀ a, isL h2 1 a → zR h2 a 1 ≠ 2 → a = 25 := fun a ia ne => by
            rcases ia with q | q | ⟨l, hl, q⟩
            · exact q
            · rw [q] at ne; exact absurd e30 ne
            · rw [Nat.lt_one_iff.mp hl, e27] at q
              rw [q] at ne; exact absurd q27 ne
          rw [cs a ia ne, cs b ib (by rw [← e]; exact ne)]
    | succ d ih =>
      intro m h2 hm ek er n2 kp fl
      obtain ⟨t1, t2⟩ := q2 m (by omega)
      have km : (nI m).toNatClampNeg = m := nI_clamp (by omega)
      refine rX9_init_196 ?_
      simp only [bX9_init_196, run, Nat.reduceAdd, lg, st1, st2, lkill, lset, fvv, sfv, kind3, cat1, retI, retA, List.length_cons, List.length_nil, true_and, and_true, or_true, true_or, qX9_init, show ((12 : Int32) ≤ nI m) ↔ False from ⟨nI_ge (b := 12) (by omega) (by omega), False.elim⟩, ek, er, c20, z19, r9, q1, km, t1, not_true_eq_false, not_false_eq_true, false_implies, true_and, and_true, tti]
      refine ⟨vp_in_nI (by omega) (by omega), sX9_init_210 (e_fill (by rw [ek]; exact t2) (by omega) (by decide) fun h3 k3 r3 l3 n3 kp3 z3 => ?_)⟩
      simp only [cont, Option.toList, List.cons_append, List.nil_append]
      refine rX9_init_213 ?_
      simp only [bX9_init_213, run, Nat.reduceAdd, lg, st1, st2, lkill, lset, fvv, sfv, kind3, cat1, retI, retA, List.length_cons, List.length_nil, true_and, and_true, or_true, true_or, qX9_init, nI_1]
      refine ih (m + 1) h3 (by omega) (k3.trans ek) (r3.trans er) (n3.trans n2) (kp.tr (kp3.mono fun a _ e => by omega)) fun a j ha hj => ?_
      by_cases e : a = m
      · rw [e]; exact z3 j hj
      · rw [(kp3.2.2 (87 + a) (by omega) (by omega)).1]
        exact fl a j (by omega) hj
  exact lp 12 0 h19 rfl rfl rfl n19 Kp.rf fun a j q => absurd q (Nat.not_lt_zero _)
