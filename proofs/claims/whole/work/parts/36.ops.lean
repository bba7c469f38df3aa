/-! ===== the family's calls: what is built ===== -/
theorem FamB.kp2 {h h' : AH} {S : Nat → Prop} {f f' : Nat → Nat} {gv gv' : Nat → List Nat} {op op' : Nat} {D : HD} (w : Wf h) (k : Kp S h h') (hS : ∀ a, S a → dat a ∨ (6 ≤ a ∧ a ≤ 24) ∨ a = 4) (hr : ∀ a, a = 4 ∨ (48 ≤ a ∧ a ≤ 85) → zR h' a = zR h a) (sn : Sn h' f') (gr : GvR h' gv') (ho : zI h' 4 2 = bI op') (ho2 : op' ≤ 12) (x : FamB h f gv op D) : FamB h' f' gv' op' D := by
  have n6 : ∀ a, 6 ≤ a → a ≤ 24 → ¬ hk (zK h a) := fun a q1 q2 => by
    obtain ⟨-, ⟨⟨m1, m2, m3, m4, m5, m6⟩, m7, -⟩, -⟩ := x
    by_cases q3 : 8 ≤ a ∧ a ≤ 23
    · have := (m6 (a - 8) (by omega)).2.1
      rw [show 8 + (a - 8) = a by omega] at this
      rw [this]; unfold hk; decide
    · have : a = 6 ∨ a = 7 ∨ a = 24 := by omega
      rcases this with rfl | rfl | rfl
      · rw [m4]; unfold hk; decide
      · rw [m5]; unfold hk; decide
      · rw [m7]; unfold hk; decide
  have kh : Kh h h' := k.mono fun a _ q => by
    rcases hS a q with q | q | q
    · exact x.nhk q
    · exact n6 a q.1 q.2
    · rw [q, x.1.1.1]; unfold hk; decide
  have nS : ∀ a, ¬ (dat a ∨ (6 ≤ a ∧ a ≤ 24) ∨ a = 4) → ¬ S a := fun a q r => q (hS a r)
  obtain ⟨⟨⟨c1, c2⟩, a1, a1', a1'', a1s⟩, ⟨a2, a2'⟩, ⟨a3, a4⟩, ⟨a5, a6⟩, a7, a8, a9, a10⟩ := x
  have sep : Sep h' D.1 := by
    obtain ⟨-, t1, t2⟩ := a3
    rw [c2.2.2.2.2.2.2.2.2.2.1] at t1
    rw [c2.2.2.2.2.2.2.2.2.2.2.1] at t2
    exact a1s.kh w kh t1 t2
  have s29 := (kh.sm w a3.1 (Or.inr (Or.inr (Or.inl rfl)))).2
  have s37 := (kh.sm w a5.1 (Or.inr (Or.inr (Or.inl rfl)))).2
  have l1 := a4.kp w k (nS 31 (by unfold dat; omega))
  have l2 := a6.kp w k (nS 36 (by unfold dat; omega))
  refine ⟨⟨⟨k.kd w c1 (by decide), ?_⟩, ho, ho2, a1'', sep⟩, ⟨sn, gr⟩, ⟨a3.kh w kh, l1.1⟩, ⟨a5.kh w kh, l2.1⟩, (a7.kp w k (nS 43 (by unfold dat; omega))).1, ?_, ?_, ?_⟩
  · rw [hr 4 (Or.inl rfl), s29.2.2.2, s37.2.2.2, l1.2, l2.2]
    exact c2
  · obtain ⟨x1, x2, x3, x4, x5, x6, x7, x8, x9, x10, x11, x12, x13⟩ := a8
    refine ⟨k.kd w x1 (by decide), ?_, ?_, ?_, ?_, ?_, ?_, k.kd w x8 (by decide), k.kd w x9 (by decide), k.kd w x10 (by decide), k.kd w x11 (by decide), k.kd w x12 (by decide), fun i hi => ⟨by rw [hr 51 (by omega)]; exact (x13 i hi).1, k.kd w (x13 i hi).2 (by decide)⟩⟩
    all_goals (rw [hr 48 (by omega)]; assumption)
  · obtain ⟨v1, v2⟩ := a9
    refine ⟨k.kd w v1 (by decide), fun i hi => ?_⟩
    obtain ⟨y1, y2, y3, y4⟩ := v2 i hi
    exact ⟨by rw [hr 65 (by omega)]; exact y1, k.kd w y2 (by decide), by rw [hr _ (by omega)]; exact y3, k.kd w y4 (by decide)⟩
  · have s86 := k.2.2 86 (w.lt a10.1 (by decide)) (nS 86 (by unfold dat; omega))
    exact ⟨k.kd w a10.1 (by decide), fun m hm => ⟨by rw [s86.2.2.2]; exact (a10.2 m hm).1, k.kd w (a10.2 m hm).2 (by decide)⟩⟩
/-- a call's frame -/
abbrev Fc (h h' : AH) : Prop := Kp (fun a => a < 99 ∨ hk (zK h a)) h h'
theorem Fc.tr {h1 h2 h3 : AH} (x : Fc h1 h2) (y : Fc h2 h3) : Fc h1 h3 := x.tr2 y fun a ha q => by
  rcases q with q | q
  · exact Or.inl q
  · rw [x.2.1 a ha] at q; exact Or.inr q
theorem Kp.fc {S : Nat → Prop} {h h' : AH} (x : Kp S h h') (hS : ∀ a, S a → a < 99) : Fc h h' := x.mono fun a _ q => Or.inl (hS a q)
theorem e_setSound {g : Gp} {x y : Int32} {h : AH} {Q : PQ} {f : Nat → Nat} {gv : Nat → List Nat} {op : Nat} {D : HD} (hf : FamR h f gv op D)
    (hq : ∀ s v, s < 16 → v < 64 → x = nI s → y = nI v → ∀ h', Fc h h' → FamR h' (fup f s v) gv op D → Q (.inl (some (vI (nI (f s))))) h')
    (hx : (inb x 16 && inb y 64) = false → ∀ n, zN h ≤ n → Q (.inr 2) (bump h n)) : Ev g mX9_setSound [vR 4, vI x, vI y] h Q := by
  have hb := hf.b
  have c1 := hb.1.1.1
  have c2 := hb.1.1.2.1
  refine nX9_setSound ?_
  refine Ex.wf (fun w => ?_)
  have bad : (inb x 16 && inb y 64) = false → Ex g mX9_setSound 22 [vR 4, vI x, vI y, vU] [vI 0] h (0, 0) Q := fun e =>
    sX9_setSound_22 (by decide) (e_refuseUnless (fun q => absurd rfl q) fun _ n hn => hx e n hn)
  refine rX9_setSound_0 ?_
  simp only [bX9_setSound_0, run, Nat.reduceAdd, lg, st1, st2, lkill, lset, fvv, sfv, kind3, cat1, retI, retA, List.length_cons, List.length_nil, true_and, and_true, or_true, true_or, qX9_setSound]
  refine sX9_setSound_1 (e_isSound ?_)
  simp only [cont, Option.toList, List.cons_append, List.nil_append]
  cases h1 : inb x 16 with
  | false =>
    refine rX9_setSound_4 ?_
    simp only [bX9_setSound_4, run, Nat.reduceAdd, lg, st1, st2, lkill, lset, fvv, sfv, kind3, cat1, retI, retA, List.length_cons, List.length_nil, true_and, and_true, or_true, true_or, qX9_setSound, show bi false = 0 from rfl, not_true_eq_false, not_false_eq_true, false_implies, true_and, and_true, tti]
    refine rX9_setSound_21 ?_
    simp only [bX9_setSound_21, run, Nat.reduceAdd, lg, st1, st2, lkill, lset, fvv, sfv, kind3, cat1, retI, retA, List.length_cons, List.length_nil, true_and, and_true, or_true, true_or, qX9_setSound]
    exact bad (by rw [h1]; rfl)
  | true =>
    refine rX9_setSound_4 ?_
    simp only [bX9_setSound_4, run, Nat.reduceAdd, lg, st1, st2, lkill, lset, fvv, sfv, kind3, cat1, retI, retA, List.length_cons, List.length_nil, true_and, and_true, or_true, true_or, qX9_setSound, show ¬ bi true = 0 by decide, not_true_eq_false, not_false_eq_true, false_implies, true_and, and_true, tti]
    have b2 : inb y 64 = false → Ex g mX9_setSound 21 [vR 4, vI x, vI y, vU] [] h (0, 0) Q := fun e => by
      refine rX9_setSound_21 ?_
      simp only [bX9_setSound_21, run, Nat.reduceAdd, lg, st1, st2, lkill, lset, fvv, sfv, kind3, cat1, retI, retA, List.length_cons, List.length_nil, true_and, and_true, or_true, true_or, qX9_setSound]
      exact bad (by rw [e, Bool.and_false])
    refine ⟨fun q => b2 (by simp [inb, q]), fun q => ⟨fun q2 => b2 ?_, fun q2 => ?_⟩⟩
    · have : nI 64 ≤ y := q2
      simp [inb, this]
    · have q3 : ¬ nI 64 ≤ y := q2
      have h2 : inb y 64 = true := by simp only [inb, q, q3, not_false_eq_true, decide_true, Bool.true_and]
      obtain ⟨s, hs, rfl⟩ := inb_t (by decide) h1
      obtain ⟨v, hv, rfl⟩ := inb_t (by decide) h2
      refine sX9_setSound_22 (by decide) (e_refuseUnless (fun _ => ?_) fun q => absurd q (by decide))
      simp only [cont, Option.toList, List.cons_append, List.nil_append]
      have sn := hb.2.1.1
      refine rX9_setSound_25 ?_
      simp only [bX9_setSound_25, run, Nat.reduceAdd, lg, st1, st2, lkill, lset, fvv, sfv, kind3, cat1, retI, retA, List.length_cons, List.length_nil, true_and, and_true, or_true, true_or, qX9_setSound, c1, c2, not_true_eq_false, not_false_eq_true, false_implies, true_and, and_true, tti]
      refine sX9_setSound_30 sn.1 (e_featuresOf sn hs ?_)
      simp only [cont, Option.toList, List.cons_append, List.nil_append]
      refine rX9_setSound_33 ?_
      simp only [bX9_setSound_33, run, Nat.reduceAdd, lg, st1, st2, lkill, lset, fvv, sfv, kind3, cat1, retI, retA, List.length_cons, List.length_nil, true_and, and_true, or_true, true_or, qX9_setSound, c1, c2, not_true_eq_false, not_false_eq_true, false_implies, true_and, and_true, tti]
      refine sX9_setSound_40 sn.1 (e_giveFeatures sn hs hv fun h2 k2 r2 l2 kp2 sn2 => ?_)
      simp only [cont, Option.toList, List.cons_append, List.nil_append]
      have fb2 : FamB h2 (fup f s v) gv op D := hb.kp2 w kp2 (fun a q => Or.inr (Or.inl ⟨q.1, by omega⟩)) (fun a _ => by rw [r2]) sn2 (hb.2.1.2.kp w kp2 (by decide)) (by rw [(kp2.2.2 4 (w.lt c1 (by decide)) (by decide)).1]; exact hb.1.2.1) hb.1.2.2.1
      refine rX9_setSound_43 ?_
      simp only [bX9_setSound_43, run, Nat.reduceAdd, lg, st1, st2, lkill, lset, fvv, sfv, kind3, cat1, retI, retA, List.length_cons, List.length_nil, true_and, and_true, or_true, true_or, qX9_setSound]
      refine sX9_setSound_44 fb2.lgs.1 (e_forgetAll fb2 fun h3 k3 r3 kp3 f3 => ?_)
      simp only [cont, Option.toList, List.cons_append, List.nil_append]
      refine rX9_setSound_47 ?_
      simp only [bX9_setSound_47, run, Nat.reduceAdd, lg, st1, st2, lkill, lset, fvv, sfv, kind3, cat1, retI, retA, List.length_cons, List.length_nil, true_and, and_true, or_true, true_or, qX9_setSound]
      exact hq s v hs hv rfl rfl h3 ((kp2.fc fun a q => by omega).tr (kp3.fc fun a q => by omega)) f3
theorem tel_cong {D : HD} {f : Nat → Nat} {gv gv' : Nat → List Nat} {T T' : Nat → Cell3} {l m : Nat} (hg : gv m = gv' m) (hT : T = T') : ∀ t, tel D f gv T l m t = tel D f gv' T' l m t
  | 0 => by subst hT; unfold tel inh; rw [hg]
  | t + 1 => by subst hT; unfold tel; rw [tel_cong hg rfl t]
theorem tbl_cong {D : HD} {f : Nat → Nat} {gv gv' : Nat → List Nat} {m : Nat} (hg : gv m = gv' m) : ∀ n, tbl D f gv m n = tbl D f gv' m n
  | 0 => rfl
  | n + 1 => by
    funext l
    unfold tbl
    split
    · exact tel_cong hg (tbl_cong hg n) 9
    · exact congrFun (tbl_cong hg n) l
theorem cel_cong {D : HD} {f : Nat → Nat} {gv gv' : Nat → List Nat} {m l : Nat} (hg : gv m = gv' m) : cel D f gv m l = cel D f gv' m l := congrFun (tbl_cong hg (l + 1)) l
/-- one word of the mother told anew -/
def gup (gv : Nat → List Nat) (m : Nat) (w : List Nat) : Nat → List Nat := fun k => if k = m then w else gv k
theorem Fgt.r {h h' : AH} {m : Nat} {f : Nat → Nat} {gv : Nat → List Nat} {op : Nat} {D : HD} (w : Wf h) (hm : m < 12) (fb : FamB h f gv op D)
    (x1 : ∀ k, k < 12 → k ≠ m → zI h 35 k = 0 ∨ (zI h 35 k = 1 ∧ ∀ l, l < D.1 → CR h 32 (l * 12 + k) (cel D f gv k l))) (x2 : ∀ k, k < 12 → k ≠ m → zI h 42 k = 0 ∨ (zI h 42 k = 1 ∧ ∀ l, l < D.1 → CR h 39 (l * 12 + k) (cel (noL D) f gv k l)))
    (x3 : ∀ k, k < 12 → k ≠ m → ∀ i j, i ≤ j → j < D.1 → zI h (87 + k) (i * 10 + j) = -2 ∨ zI h (87 + k) (i * 10 + j) = hI (cwo f (cel D f gv k i).1 (cel D f gv k j).1)) (y : Fgt m h h') : FamR h' f gv op D := by
  have fb' := y.b w hm fb
  have hD1 := fb.ok.2.1
  obtain ⟨y1, y2, y3, y4, y5, y6⟩ := y
  have l1 := fb.2.2.1.2
  have l2 := fb.2.2.2.1.2
  have wl : ∀ {c t n}, zK h c = (t, n) → t ≠ 0 → c < zN h := fun q1 q2 => w.lt q1 q2
  have s32 := y3.2.2 32 (wl l1.2.2.2.2.2.2.2.1 (by decide)) (by omega)
  have s33 := y3.2.2 33 (wl l1.2.2.2.2.2.2.2.2.1 (by decide)) (by omega)
  have s34 := y3.2.2 34 (wl l1.2.2.2.2.2.2.2.2.2.1 (by decide)) (by omega)
  have s39 := y3.2.2 39 (wl l2.2.2.2.2.2.2.2.1 (by decide)) (by omega)
  have s40 := y3.2.2 40 (wl l2.2.2.2.2.2.2.2.2.1 (by decide)) (by omega)
  have s41 := y3.2.2 41 (wl l2.2.2.2.2.2.2.2.2.2.1 (by decide)) (by omega)
  refine fb'.r ⟨fb'.2.2.1.2, fun k hk => ?_⟩ ⟨fb'.2.2.2.1.2, fun k hk => ?_⟩ fun k hk i j h1 h2 => ?_
  · rw [show 32 + 3 = 35 from rfl, y4]
    by_cases e : k = m
    · rw [e, up1_s]; exact Or.inl rfl
    · rw [up1_n _ _ e]
      refine (x1 k hk e).imp id fun q => ⟨q.1, fun l hl => ?_⟩
      have := q.2 l hl
      exact ⟨by rw [s32.2.1]; exact this.1, by rw [show 32 + 1 = 33 from rfl, s33.1]; exact this.2.1, by rw [show 32 + 2 = 34 from rfl, s34.1]; exact this.2.2⟩
  · rw [show 39 + 3 = 42 from rfl, y5]
    by_cases e : k = m
    · rw [e, up1_s]; exact Or.inl rfl
    · rw [up1_n _ _ e]
      refine (x2 k hk e).imp id fun q => ⟨q.1, fun l hl => ?_⟩
      have := q.2 l hl
      exact ⟨by rw [s39.2.1]; exact this.1, by rw [show 39 + 1 = 40 from rfl, s40.1]; exact this.2.1, by rw [show 39 + 2 = 41 from rfl, s41.1]; exact this.2.2⟩
  · by_cases e : k = m
    · rw [e]; exact Or.inl (y6 _ (by omega))
    · have kl : zK h (87 + k) = (2, 100) := (fb.2.2.2.2.2.2.2.2 k hk).2
      rw [(y3.2.2 (87 + k) (wl kl (by decide)) (by omega)).1]
      exact x3 k hk e i j h1 h2
/-- the caches that a heap keeps for the other meanings, also when one word of the mother is told anew -/
theorem FamR.gtell {h h1 h2 : AH} {m : Nat} {wd : List Nat} {f : Nat → Nat} {gv : Nat → List Nat} {op op' : Nat} {D : HD} (hf : FamR h f gv op D) (w1 : Wf h1) (hm : m < 12) (fb : FamB h1 f (gup gv m wd) op' D)
    (e1 : zI h1 35 = zI h 35 ∧ zI h1 42 = zI h 42 ∧ (zL h1 32 = zL h 32 ∧ zI h1 33 = zI h 33 ∧ zI h1 34 = zI h 34) ∧ (zL h1 39 = zL h 39 ∧ zI h1 40 = zI h 40 ∧ zI h1 41 = zI h 41) ∧ ∀ k, k < 12 → zI h1 (87 + k) = zI h (87 + k)) (y : Fgt m h1 h2) : FamR h2 f (gup gv m wd) op' D := by
  obtain ⟨-, -, ⟨-, -, l1⟩, ⟨-, -, l2⟩, -, -, -, -, kc⟩ := hf
  obtain ⟨q1, q2, ⟨q3, q4, q5⟩, ⟨q6, q7, q8⟩, q9⟩ := e1
  have ce : ∀ (D : HD) k l, k ≠ m → cel D f (gup gv m wd) k l = cel D f gv k l := fun D k l e => cel_cong (if_neg e)
  refine Fgt.r w1 hm fb (fun k hk e => ?_) (fun k hk e => ?_) (fun k hk e i j a1 a2 => ?_) y
  · rw [q1]
    refine (l1 k hk).imp id fun q => ⟨q.1, fun l hl => ?_⟩
    have := q.2 l hl
    rw [ce _ _ _ e]
    exact ⟨by rw [q3]; exact this.1, by rw [show 32 + 1 = 33 from rfl, q4]; exact this.2.1, by rw [show 32 + 2 = 34 from rfl, q5]; exact this.2.2⟩
  · rw [q2]
    refine (l2 k hk).imp id fun q => ⟨q.1, fun l hl => ?_⟩
    have := q.2 l hl
    rw [ce _ _ _ e]
    exact ⟨by rw [q6]; exact this.1, by rw [show 39 + 1 = 40 from rfl, q7]; exact this.2.1, by rw [show 39 + 2 = 41 from rfl, q8]; exact this.2.2⟩
  · rw [q9 k hk, ce _ _ _ e, ce _ _ _ e]
    exact kc k hk i j a1 a2
theorem GvR.up {h : AH} {gv : Nat → List Nat} {m : Nat} {wd : List Nat} (hg : GvR h gv) (hw : Wok wd) : GvR (sL h 24 m (eC wd)) (gup gv m wd) := by
  refine ⟨hg.1, fun k hk => ?_⟩
  unfold gup
  rw [zL_sL]
  by_cases e : k = m
  · rw [e, up1_s, if_pos rfl]; exact ⟨hw, rfl⟩
  · rw [up1_n _ _ e, if_neg e]; exact hg.2 k hk
theorem e_word {g : Gp} {x : Int32} {h : AH} {Q : PQ} {f : Nat → Nat} {gv : Nat → List Nat} {op : Nat} {D : HD} (hf : FamR h f gv op D)
    (hq : ∀ m, m < 12 → x = nI m → ∀ h', Fc h h' → FamR h' f (gup gv m []) (m + 1) D → Q (.inl (some (vI (nI (gv m).length)))) h')
    (hx : inb x 12 = false → ∀ n, zN h ≤ n → Q (.inr 2) (bump h n)) : Ev g mX9_word [vR 4, vI x] h Q := by
  have hb := hf.b
  have c1 := hb.1.1.1
  have c2 := hb.1.1.2.2.1
  have gr := hb.2.1.2
  refine nX9_word ?_
  refine Ex.wf (fun w => ?_)
  refine rX9_word_0 ?_
  simp only [bX9_word_0, run, Nat.reduceAdd, lg, st1, st2, lkill, lset, fvv, sfv, kind3, cat1, retI, retA, List.length_cons, List.length_nil, true_and, and_true, or_true, true_or, qX9_word]
  refine sX9_word_1 (e_isMeaning ?_)
  simp only [cont, Option.toList, List.cons_append, List.nil_append]
  refine sX9_word_4 (by decide) (e_refuseUnless (fun q => ?_) fun q n hn => hx (bi_0.mp q) n hn)
  simp only [cont, Option.toList, List.cons_append, List.nil_append]
  obtain ⟨m, hm, rfl⟩ := inb_t (by decide) (ts_nf fun e => q (bi_0.mpr e))
  have km : (nI m).toNatClampNeg = m := nI_clamp (by omega)
  refine rX9_word_7 ?_
  simp only [bX9_word_7, run, Nat.reduceAdd, lg, st1, st2, lkill, lset, fvv, sfv, kind3, cat1, retI, retA, List.length_cons, List.length_nil, true_and, and_true, or_true, true_or, qX9_word, c1, c2, gr.1, km, (gr.2 m hm).2, not_true_eq_false, not_false_eq_true, false_implies, true_and, and_true, tti]
  refine ⟨vp_in_nI (by omega) (by omega), sX9_word_13 (e_size (gr.2 m hm).1 ?_)⟩
  simp only [cont, Option.toList, List.cons_append, List.nil_append]
  refine rX9_word_16 ?_
  simp only [bX9_word_16, run, Nat.reduceAdd, lg, st1, st2, lkill, lset, fvv, sfv, kind3, cat1, retI, retA, List.length_cons, List.length_nil, true_and, and_true, or_true, true_or, qX9_word, kL, kI, kD, kR, rL, rI, rD, iL, iD, iR, lI, lD, lR, c1, c2, gr.1, km, not_true_eq_false, not_false_eq_true, false_implies, true_and, and_true, tti]
  refine ⟨vp_in_nI (by omega) (by omega), ?_⟩
  have gr2 := gr.up (m := m) (wd := []) wok_nil
  rw [eC_nil] at gr2
  have kp : Kp (fun a => a = 24 ∨ a = 4) h (sI (sL h 24 m 0) 4 2 (nI m)) := (Kp.sL (S := fun a => a = 24 ∨ a = 4) (Or.inl rfl)).tr (Kp.sI (Or.inr rfl))
  have fb2 : FamB (sI (sL h 24 m 0) 4 2 (nI m)) f (gup gv m []) (m + 1) D := by
    refine hb.kp2 w kp (fun a q => by omega) (fun a _ => rfl) (hb.2.1.1.kp w kp fun a q1 q2 q3 => by omega) ⟨gr2.1, gr2.2⟩ ?_ (by omega)
    rw [zI_sI, up1_s, bI_s]
  refine sX9_word_31 fb2.lgs.1 (e_forgetMeaning fb2 hm fun h3 fg => ?_)
  simp only [cont, Option.toList, List.cons_append, List.nil_append]
  refine rX9_word_34 ?_
  simp only [bX9_word_34, run, Nat.reduceAdd, lg, st1, st2, lkill, lset, fvv, sfv, kind3, cat1, retI, retA, List.length_cons, List.length_nil, true_and, and_true, or_true, true_or, qX9_word]
  have i4 : ∀ c, c ≠ 4 → zI (sI (sL h 24 m 0) 4 2 (nI m)) c = zI h c := fun c hc => by rw [zI_n hc, iL]
  have l4 : ∀ c, c ≠ 24 → zL (sI (sL h 24 m 0) 4 2 (nI m)) c = zL h c := fun c hc => by rw [lI, zL_n hc]
  have w2 : Wf (sI (sL h 24 m 0) 4 2 (nI m)) := w
  exact hq m hm rfl h3 ((kp.fc fun a q => by omega).tr (fg.2.2.1.fc fun a q => by omega)) (hf.gtell w2 hm fb2 ⟨i4 _ (by decide), i4 _ (by decide), ⟨l4 _ (by decide), i4 _ (by decide), i4 _ (by decide)⟩, ⟨l4 _ (by decide), i4 _ (by decide), i4 _ (by decide)⟩, fun k hk => i4 _ (by omega)⟩ fg)
