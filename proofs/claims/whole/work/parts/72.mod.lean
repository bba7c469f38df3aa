/-! ===== the model: what its fields and rows hold ===== -/
def mfd (i : Nat) : Nat := [0, 100, 101, 0, 0, 102, 103, 104, 105, 106, 107, 0, 108, 109, 110, 111, 112, 113, 114, 115, 116, 0, 117, 118, 119, 120, 121].getD i 0
def mkd (k : Nat) : Nat × Nat := [(2, 16), (3, 12), (2, 10), (2, 10), (2, 80), (2, 80), (2, 80), (2, 80), (2, 12), (2, 12), (2, 12), (2, 12), (4, 12), (3, 120), (2, 120), (2, 120), (2, 121), (2, 20), (2, 20), (2, 10), (2, 10), (2, 170)].getD k (0, 0)
def ModS (h : AH) : Prop := zK h 99 = (1, 10) ∧ (∀ i, i < 27 → mfd i ≠ 0 → zR h 99 i = mfd i) ∧ ∀ k, k < 22 → zK h (100 + k) = mkd k
theorem ModS.R1 {h : AH} (x : ModS h) : zR h 99 1 = 100 := x.2.1 1 (by decide) (by decide)
theorem ModS.R2 {h : AH} (x : ModS h) : zR h 99 2 = 101 := x.2.1 2 (by decide) (by decide)
theorem ModS.R5 {h : AH} (x : ModS h) : zR h 99 5 = 102 := x.2.1 5 (by decide) (by decide)
theorem ModS.R6 {h : AH} (x : ModS h) : zR h 99 6 = 103 := x.2.1 6 (by decide) (by decide)
theorem ModS.R7 {h : AH} (x : ModS h) : zR h 99 7 = 104 := x.2.1 7 (by decide) (by decide)
theorem ModS.R8 {h : AH} (x : ModS h) : zR h 99 8 = 105 := x.2.1 8 (by decide) (by decide)
theorem ModS.R9 {h : AH} (x : ModS h) : zR h 99 9 = 106 := x.2.1 9 (by decide) (by decide)
theorem ModS.R10 {h : AH} (x : ModS h) : zR h 99 10 = 107 := x.2.1 10 (by decide) (by decide)
theorem ModS.R12 {h : AH} (x : ModS h) : zR h 99 12 = 108 := x.2.1 12 (by decide) (by decide)
theorem ModS.R13 {h : AH} (x : ModS h) : zR h 99 13 = 109 := x.2.1 13 (by decide) (by decide)
theorem ModS.R14 {h : AH} (x : ModS h) : zR h 99 14 = 110 := x.2.1 14 (by decide) (by decide)
theorem ModS.R15 {h : AH} (x : ModS h) : zR h 99 15 = 111 := x.2.1 15 (by decide) (by decide)
theorem ModS.R16 {h : AH} (x : ModS h) : zR h 99 16 = 112 := x.2.1 16 (by decide) (by decide)
theorem ModS.R17 {h : AH} (x : ModS h) : zR h 99 17 = 113 := x.2.1 17 (by decide) (by decide)
theorem ModS.R18 {h : AH} (x : ModS h) : zR h 99 18 = 114 := x.2.1 18 (by decide) (by decide)
theorem ModS.R19 {h : AH} (x : ModS h) : zR h 99 19 = 115 := x.2.1 19 (by decide) (by decide)
theorem ModS.R20 {h : AH} (x : ModS h) : zR h 99 20 = 116 := x.2.1 20 (by decide) (by decide)
theorem ModS.R22 {h : AH} (x : ModS h) : zR h 99 22 = 117 := x.2.1 22 (by decide) (by decide)
theorem ModS.R23 {h : AH} (x : ModS h) : zR h 99 23 = 118 := x.2.1 23 (by decide) (by decide)
theorem ModS.R24 {h : AH} (x : ModS h) : zR h 99 24 = 119 := x.2.1 24 (by decide) (by decide)
theorem ModS.R25 {h : AH} (x : ModS h) : zR h 99 25 = 120 := x.2.1 25 (by decide) (by decide)
theorem ModS.R26 {h : AH} (x : ModS h) : zR h 99 26 = 121 := x.2.1 26 (by decide) (by decide)
theorem ModS.K100 {h : AH} (x : ModS h) : zK h 100 = (2, 16) := x.2.2 0 (by decide)
theorem ModS.K101 {h : AH} (x : ModS h) : zK h 101 = (3, 12) := x.2.2 1 (by decide)
theorem ModS.K102 {h : AH} (x : ModS h) : zK h 102 = (2, 10) := x.2.2 2 (by decide)
theorem ModS.K103 {h : AH} (x : ModS h) : zK h 103 = (2, 10) := x.2.2 3 (by decide)
theorem ModS.K104 {h : AH} (x : ModS h) : zK h 104 = (2, 80) := x.2.2 4 (by decide)
theorem ModS.K105 {h : AH} (x : ModS h) : zK h 105 = (2, 80) := x.2.2 5 (by decide)
theorem ModS.K106 {h : AH} (x : ModS h) : zK h 106 = (2, 80) := x.2.2 6 (by decide)
theorem ModS.K107 {h : AH} (x : ModS h) : zK h 107 = (2, 80) := x.2.2 7 (by decide)
theorem ModS.K108 {h : AH} (x : ModS h) : zK h 108 = (2, 12) := x.2.2 8 (by decide)
theorem ModS.K109 {h : AH} (x : ModS h) : zK h 109 = (2, 12) := x.2.2 9 (by decide)
theorem ModS.K110 {h : AH} (x : ModS h) : zK h 110 = (2, 12) := x.2.2 10 (by decide)
theorem ModS.K111 {h : AH} (x : ModS h) : zK h 111 = (2, 12) := x.2.2 11 (by decide)
theorem ModS.K112 {h : AH} (x : ModS h) : zK h 112 = (4, 12) := x.2.2 12 (by decide)
theorem ModS.K113 {h : AH} (x : ModS h) : zK h 113 = (3, 120) := x.2.2 13 (by decide)
theorem ModS.K114 {h : AH} (x : ModS h) : zK h 114 = (2, 120) := x.2.2 14 (by decide)
theorem ModS.K115 {h : AH} (x : ModS h) : zK h 115 = (2, 120) := x.2.2 15 (by decide)
theorem ModS.K116 {h : AH} (x : ModS h) : zK h 116 = (2, 121) := x.2.2 16 (by decide)
theorem ModS.K117 {h : AH} (x : ModS h) : zK h 117 = (2, 20) := x.2.2 17 (by decide)
theorem ModS.K118 {h : AH} (x : ModS h) : zK h 118 = (2, 20) := x.2.2 18 (by decide)
theorem ModS.K119 {h : AH} (x : ModS h) : zK h 119 = (2, 10) := x.2.2 19 (by decide)
theorem ModS.K120 {h : AH} (x : ModS h) : zK h 120 = (2, 10) := x.2.2 20 (by decide)
theorem ModS.K121 {h : AH} (x : ModS h) : zK h 121 = (2, 170) := x.2.2 21 (by decide)
theorem mkd_k {k : Nat} (h : k < 22) : (mkd k).1 ≠ 0 ∧ ¬ hk (mkd k) := by
  revert h
  revert k
  unfold hk
  decide
theorem ModS.keep {h h' : AH} {S : Nat → Prop} (w : Wf h) (x : ModS h) (k : Kp S h h') (e : zR h' 99 = zR h 99) : ModS h' :=
  ⟨k.kd w x.1 (by decide), fun i hi h0 => by rw [e]; exact x.2.1 i hi h0, fun j hj => k.kd w (x.2.2 j hj) (mkd_k hj).1⟩
theorem ModS.lt {h : AH} (w : Wf h) (x : ModS h) {a : Nat} (h1 : a ≤ 121) : a < zN h := by
  have := w.lt (x.2.2 21 (by decide)) (by decide)
  omega
def LwM (h : AH) (k : Nat) (w : Lw) : Prop := lwOk w ∧ zI h 104 k = nI w.1 ∧ zI h 105 k = bI w.2.1 ∧ zI h 106 k = nI w.2.2.1 ∧ zI h 107 k = nI w.2.2.2
def LnM (h : AH) (i : Nat) (n : Ln) : Prop := (zI h 112 i = 0 ∧ zI h 108 i = nI n.1 ∧ zI h 109 i = nI n.2.1 ∧ zI h 110 i = nI n.2.2.1 ∧ zI h 111 i = nI n.2.2.2 ∧ n.1 < 12 ∧ n.2.1 < 10 ∧ n.2.2.1 < 10 ∧ n.2.2.2 ≤ 8) ∨ (zI h 112 i = 1 ∧ n.1 = 12)
def HsM (h : AH) (D : HD) : Prop := zI h 99 4 = nI D.1 ∧ zI h 99 11 = nI D.2.2.2.length ∧ (∀ l, 0 < l → l < D.1 → zI h 102 l = nI (D.2.1 l)) ∧ (∀ l, l < D.1 → zI h 103 l = nI (D.2.2.1 l).length ∧ ∀ i, i < (D.2.2.1 l).length → LwM h (l * 8 + i) ((D.2.2.1 l).getD i w0)) ∧ ∀ i, i < D.2.2.2.length → LnM h i (D.2.2.2.getD i w0)
def SnM (h : AH) (f : Nat → Nat) : Prop := ∀ s, s < 16 → f s < 64 ∧ zI h 100 s = nI (f s)
def GvM (h : AH) (gv : Nat → List Nat) : Prop := ∀ m, m < 12 → Wok (gv m) ∧ zL h 101 m = wM (gv m)
/-- a history as solve needs it: loans that are left out have no meaning -/
def hdV (D : HD) : Prop := 1 ≤ D.1 ∧ D.1 ≤ 10 ∧ (∀ l, 0 < l → l < D.1 → D.2.1 l < l) ∧ (∀ l, l < D.1 → (D.2.2.1 l).length ≤ 8) ∧ D.2.2.2.length ≤ 12 ∧ ∀ i, i < D.2.2.2.length → (D.2.2.2.getD i w0).2.1 < (D.2.2.2.getD i w0).2.2.1
theorem hdOk.v {D : HD} (h : hdOk D) : hdV D := ⟨h.1, h.2.1, h.2.2.1, h.2.2.2.1, h.2.2.2.2.1, fun i hi => (h.2.2.2.2.2 i hi).2.1⟩
theorem inh_okv {D : HD} {gv : Nat → List Nat} {T : Nat → Cell3} {l m : Nat} (hD : hdV D) (hl : l < D.1) (hT : ∀ k, k < l → cOk 12 9 (T k)) (hg : Wok (gv m)) : cOk 12 0 (inh D gv T l m) := by
  unfold inh
  split
  · exact ⟨hg, by simp, by simp⟩
  · have := hT _ (hD.2.2.1 l (by omega) hl)
    exact ⟨this.1, this.2.1, by simp⟩
theorem tel_okv {D : HD} {f : Nat → Nat} {gv : Nat → List Nat} {T : Nat → Cell3} {l m : Nat} (hD : hdV D) (hl : l < D.1) (hT : ∀ k, k < l → cOk 12 9 (T k)) (hg : Wok (gv m)) : ∀ t, cOk 12 t (tel D f gv T l m t)
  | 0 => inh_okv hD hl hT hg
  | t + 1 => lst_ok (brw_ok (fun k hk => (hT k hk).1) (tel_okv hD hl hT hg t) (fun i hi => hD.2.2.2.2.2 i hi) _ hD.2.2.2.2.1 (Nat.le_refl _))
theorem tbl_okv {D : HD} {f : Nat → Nat} {gv : Nat → List Nat} {m : Nat} (hD : hdV D) (hg : Wok (gv m)) : ∀ n, n ≤ D.1 → ∀ l, cOk 12 9 (tbl D f gv m n l)
  | 0, _, l => ⟨wok_nil, by simp [tbl], by simp [tbl]⟩
  | n + 1, hn, l => by
    unfold tbl
    split
    · exact tel_okv hD (by omega) (fun k _ => tbl_okv hD hg n (by omega) k) hg 9
    · exact tbl_okv hD hg n (by omega) l
theorem cel_okv {D : HD} {f : Nat → Nat} {gv : Nat → List Nat} {m l : Nat} (hD : hdV D) (hg : Wok (gv m)) (hl : l < D.1) : cOk 12 9 (cel D f gv m l) := tbl_okv hD hg (l + 1) hl l
def ModR (h : AH) (f : Nat → Nat) (gv : Nat → List Nat) (op : Nat) (D : HD) : Prop :=
  ModS h ∧ (zI h 99 3 = bI op ∧ op ≤ 12) ∧ SnM h f ∧ GvM h gv ∧ HsM h D ∧ (∀ l, D.1 ≤ l → l < 10 → zI h 103 l = 0) ∧ (∀ i, i < 12 → zI h 112 i = 0) ∧ hdOk D
/-- what a question to the model changes -/
def Ms (h h' : AH) : Prop := Kp (fun a => a = 99 ∨ (113 ≤ a ∧ a ≤ 121)) h h' ∧ (∀ j, j ≠ 0 → j ≠ 21 → zI h' 99 j = zI h 99 j) ∧ zR h' 99 = zR h 99
theorem Ms.rf {h : AH} : Ms h h := ⟨Kp.rf, fun _ _ _ => rfl, rfl⟩
theorem Ms.tr {h1 h2 h3 : AH} (x : Ms h1 h2) (y : Ms h2 h3) : Ms h1 h3 := ⟨x.1.tr y.1, fun j h0 h1 => (y.2.1 j h0 h1).trans (x.2.1 j h0 h1), y.2.2.trans x.2.2⟩
theorem Ms.of {h h' : AH} {S : Nat → Prop} (w : Wf h) (x : ModS h) (k : Kp S h h') (hS : ∀ a, S a → 113 ≤ a ∧ a ≤ 121) : Ms h h' := by
  have s := k.2.2 99 (x.lt w (by decide)) (fun q => by have := hS 99 q; omega)
  exact ⟨k.mono fun a _ q => Or.inr (hS a q), fun j _ _ => by rw [s.1], s.2.2.2⟩
theorem Ms.thr {h : AH} {v : Int32} : Ms h (sI h 99 0 v) := ⟨Kp.sI (Or.inl rfl), fun j h0 _ => by rw [zI_sI]; exact up1_n _ _ h0, rfl⟩
theorem Ms.col {h : AH} {v : Int32} : Ms h (sI h 99 21 v) := ⟨Kp.sI (Or.inl rfl), fun j _ h0 => by rw [zI_sI]; exact up1_n _ _ h0, rfl⟩
theorem Ms.s {h h' : AH} (w : Wf h) (y : Ms h h') (x : ModS h) : ModS h' := x.keep w y.1 y.2.2
theorem Ms.sm {h h' : AH} (w : Wf h) (y : Ms h h') (x : ModS h) {a : Nat} (h1 : 100 ≤ a) (h2 : a ≤ 112) : zI h' a = zI h a ∧ zL h' a = zL h a := by
  have s := y.1.2.2 a (x.lt w (by omega)) (by omega)
  exact ⟨s.1, s.2.1⟩
theorem Ms.sn {h h' : AH} {f : Nat → Nat} (w : Wf h) (y : Ms h h') (x : ModS h) (z : SnM h f) : SnM h' f := fun s hs => by
  rw [(y.sm w x (a := 100) (by decide) (by decide)).1]
  exact z s hs
theorem Ms.gv {h h' : AH} {gv : Nat → List Nat} (w : Wf h) (y : Ms h h') (x : ModS h) (z : GvM h gv) : GvM h' gv := fun m hm => by
  rw [(y.sm w x (a := 101) (by decide) (by decide)).2]
  exact z m hm
theorem Ms.hs {h h' : AH} {D : HD} (w : Wf h) (y : Ms h h') (x : ModS h) (z : HsM h D) : HsM h' D := by
  obtain ⟨z1, z2, z3, z4, z5⟩ := z
  refine ⟨by rw [y.2.1 4 (by decide) (by decide)]; exact z1, by rw [y.2.1 11 (by decide) (by decide)]; exact z2, ?_, ?_, ?_⟩
  · rw [(y.sm w x (a := 102) (by decide) (by decide)).1]; exact z3
  · unfold LwM
    rw [(y.sm w x (a := 103) (by decide) (by decide)).1, (y.sm w x (a := 104) (by decide) (by decide)).1, (y.sm w x (a := 105) (by decide) (by decide)).1, (y.sm w x (a := 106) (by decide) (by decide)).1, (y.sm w x (a := 107) (by decide) (by decide)).1]
    exact z4
  · unfold LnM
    rw [(y.sm w x (a := 108) (by decide) (by decide)).1, (y.sm w x (a := 109) (by decide) (by decide)).1, (y.sm w x (a := 110) (by decide) (by decide)).1, (y.sm w x (a := 111) (by decide) (by decide)).1, (y.sm w x (a := 112) (by decide) (by decide)).1]
    exact z5
theorem Ms.mod {h h' : AH} {f : Nat → Nat} {gv : Nat → List Nat} {op : Nat} {D : HD} (w : Wf h) (y : Ms h h') (x : ModR h f gv op D) : ModR h' f gv op D := by
  obtain ⟨x1, x2, x3, x4, x5, x6, x7, x8⟩ := x
  refine ⟨y.s w x1, by rw [y.2.1 3 (by decide) (by decide)]; exact x2, y.sn w x1 x3, y.gv w x1 x4, y.hs w x1 x5, ?_, ?_, x8⟩
  · rw [(y.sm w x1 (a := 103) (by decide) (by decide)).1]; exact x6
  · rw [(y.sm w x1 (a := 112) (by decide) (by decide)).1]; exact x7
/-- what a call of the class leaves of the model: all -/
theorem Fc.mod {h h' : AH} {f : Nat → Nat} {gv : Nat → List Nat} {op : Nat} {D : HD} (w : Wf h) (y : Fc h h') (x : ModR h f gv op D) : ModR h' f gv op D := by
  have x1 := x.1
  have sm : ∀ a, 99 ≤ a → a ≤ 121 → Sm h h' a := fun a h1 h2 => y.2.2 a (x1.lt w h2) fun q => by
    rcases q with q | q
    · omega
    · by_cases e : a = 99
      · rw [e, x1.1] at q
        revert q
        unfold hk
        decide
      · have k := x1.2.2 (a - 100) (by omega)
        rw [show 100 + (a - 100) = a by omega] at k
        rw [k] at q
        exact (mkd_k (by omega)).2 q
  have s99 := sm 99 (by decide) (by decide)
  obtain ⟨x1, x2, x3, x4, ⟨z1, z2, z3, z4, z5⟩, x6, x7, x8⟩ := x
  refine ⟨x1.keep w y s99.2.2.2, by rw [s99.1]; exact x2, ?_, ?_, ⟨by rw [s99.1]; exact z1, by rw [s99.1]; exact z2, ?_, ?_, ?_⟩, ?_, ?_, x8⟩
  · unfold SnM; rw [(sm 100 (by decide) (by decide)).1]; exact x3
  · unfold GvM; rw [(sm 101 (by decide) (by decide)).2.1]; exact x4
  · rw [(sm 102 (by decide) (by decide)).1]; exact z3
  · unfold LwM
    rw [(sm 103 (by decide) (by decide)).1, (sm 104 (by decide) (by decide)).1, (sm 105 (by decide) (by decide)).1, (sm 106 (by decide) (by decide)).1, (sm 107 (by decide) (by decide)).1]
    exact z4
  · unfold LnM
    rw [(sm 108 (by decide) (by decide)).1, (sm 109 (by decide) (by decide)).1, (sm 110 (by decide) (by decide)).1, (sm 111 (by decide) (by decide)).1, (sm 112 (by decide) (by decide)).1]
    exact z5
  · rw [(sm 103 (by decide) (by decide)).1]; exact x6
  · rw [(sm 112 (by decide) (by decide)).1]; exact x7
/-- what a call of the model leaves of the class: all -/
abbrev Mc (h h' : AH) : Prop := Kp (fun a => 99 ≤ a ∧ a ≤ 121) h h'
theorem Ms.c {h h' : AH} (y : Ms h h') : Mc h h' := y.1.mono fun a _ q => by omega
theorem Mc.fam {h h' : AH} {f : Nat → Nat} {gv : Nat → List Nat} {op : Nat} {D : HD} (w : Wf h) (s : ModS h) (k : Mc h h') (x : FamR h f gv op D) : FamR h' f gv op D := by
  have kh : Kh h h' := k.mono fun a _ q => by
    by_cases e : a = 99
    · rw [e, s.1]; unfold hk; decide
    · have k := s.2.2 (a - 100) (by omega)
      rw [show 100 + (a - 100) = a by omega] at k
      rw [k]
      exact (mkd_k (by omega)).2
  have hr : ∀ a, a < 99 → Sm h h' a := fun a q => k.2.2 a (s.lt w (by omega)) (by omega)
  obtain ⟨⟨⟨c1, c2⟩, a1, a1', a1'', a1s⟩, ⟨a2, a2'⟩, ⟨a3, a4, l1⟩, ⟨a5, a6, l2⟩, a7, a8, a9, a10, kc⟩ := x
  have sep : Sep h' D.1 := by
    obtain ⟨-, t1, t2⟩ := a3
    rw [c2.2.2.2.2.2.2.2.2.2.1] at t1
    rw [c2.2.2.2.2.2.2.2.2.2.2.1] at t2
    exact a1s.kh w kh t1 t2
  have s4 := hr 4 (by decide)
  have s29 := hr 29 (by decide)
  have s37 := hr 37 (by decide)
  have p1 := a4.kp w k (by decide)
  have p2 := a6.kp w k (by decide)
  refine ⟨⟨⟨k.kd w c1 (by decide), ?_⟩, by rw [s4.1]; exact a1, a1', a1'', sep⟩, ⟨a2.kp w k fun a q1 q2 => by omega, a2'.kp w k (by decide)⟩, ⟨a3.kh w kh, p1.1, ?_⟩, ⟨a5.kh w kh, p2.1, ?_⟩, (a7.kp w k (by decide)).1, ?_, ?_, ?_, ?_⟩
  · rw [s4.2.2.2, s29.2.2.2, s37.2.2.2, p1.2, p2.2]
    exact c2
  · unfold CR
    rw [(hr (32 + 3) (by decide)).1, (hr 32 (by decide)).2.1, (hr (32 + 1) (by decide)).1, (hr (32 + 2) (by decide)).1]
    exact l1
  · unfold CR
    rw [(hr (39 + 3) (by decide)).1, (hr 39 (by decide)).2.1, (hr (39 + 1) (by decide)).1, (hr (39 + 2) (by decide)).1]
    exact l2
  · obtain ⟨x1, x2, x3, x4, x5, x6, x7, x8, x9, x10, x11, x12, x13⟩ := a8
    refine ⟨k.kd w x1 (by decide), ?_, ?_, ?_, ?_, ?_, ?_, k.kd w x8 (by decide), k.kd w x9 (by decide), k.kd w x10 (by decide), k.kd w x11 (by decide), k.kd w x12 (by decide), fun i hi => ⟨by rw [(hr 51 (by omega)).2.2.2]; exact (x13 i hi).1, k.kd w (x13 i hi).2 (by decide)⟩⟩
    all_goals (rw [(hr 48 (by omega)).2.2.2]; assumption)
  · obtain ⟨v1, v2⟩ := a9
    refine ⟨k.kd w v1 (by decide), fun i hi => ?_⟩
    obtain ⟨y1, y2, y3, y4⟩ := v2 i hi
    exact ⟨by rw [(hr 65 (by omega)).2.2.2]; exact y1, k.kd w y2 (by decide), by rw [(hr _ (by omega)).2.2.2]; exact y3, k.kd w y4 (by decide)⟩
  · exact ⟨k.kd w a10.1 (by decide), fun m hm => ⟨by rw [(hr 86 (by decide)).2.2.2]; exact (a10.2 m hm).1, k.kd w (a10.2 m hm).2 (by decide)⟩⟩
  · intro m hm i j q1 q2
    rw [(hr (87 + m) (by omega)).1]
    exact kc m hm i j q1 q2
