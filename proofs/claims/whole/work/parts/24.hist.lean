/-! ===== a history: languages, laws, loans; its words ===== -/
abbrev Ln : Type := Nat × Nat × Nat × Nat
/-- how many languages; parents; laws; loans -/
abbrev HD : Type := Nat × (Nat → Nat) × (Nat → List Lw) × List Ln
abbrev w0 : Lw := (0, 0, 0, 0)
def pc (p : Nat → Nat) (l : Nat) : Nat := if l = 0 then 0 else p l + 1
def hdOk (D : HD) : Prop := 1 ≤ D.1 ∧ D.1 ≤ 10 ∧ (∀ l, 0 < l → l < D.1 → D.2.1 l < l) ∧ (∀ l, l < D.1 → (D.2.2.1 l).length ≤ 8) ∧ D.2.2.2.length ≤ 12 ∧ ∀ i, i < D.2.2.2.length → (D.2.2.2.getD i w0).1 < 12 ∧ (D.2.2.2.getD i w0).2.1 < (D.2.2.2.getD i w0).2.2.1 ∧ (D.2.2.2.getD i w0).2.2.1 < D.1 ∧ (D.2.2.2.getD i w0).2.2.2 ≤ 8
def LgR (h : AH) (y p : Nat) (ws : List Lw) : Prop := zK h y = (1, 3) ∧ zI h y 0 = bI p ∧ ∃ e ys, LsR h (zR h y 1) e ys ∧ ys.length = ws.length ∧ ∀ i, i < ws.length → LwR h (ys.getD i 0) (ws.getD i w0)
def LnR (h : AH) (z : Nat) (n : Ln) : Prop := zK h z = (1, 6) ∧ zI h z 0 = nI n.1 ∧ zI h z 1 = nI n.2.1 ∧ zI h z 2 = nI n.2.2.1 ∧ zI h z 3 = nI n.2.2.2
def LgsR (h : AH) (a : Nat) (n : Nat) (p : Nat → Nat) (ls : Nat → List Lw) : Prop := ∃ e xs, LsR h a e xs ∧ xs.length = n ∧ ∀ l, l < n → LgR h (xs.getD l 0) (pc p l) (ls l)
def LnsR (h : AH) (a : Nat) (ln : List Ln) : Prop := ∃ e zs, LsR h a e zs ∧ zs.length = ln.length ∧ ∀ i, i < ln.length → LnR h (zs.getD i 0) (ln.getD i w0)
def HsR (h : AH) (hs : Nat) (D : HD) : Prop := zK h hs = (1, 2) ∧ LgsR h (zR h hs 0) D.1 D.2.1 D.2.2.1 ∧ LnsR h (zR h hs 1) D.2.2.2
/-- the kinds of cells that a history is made of -/
def hk (k : Nat × Nat) : Prop := k.1 = 6 ∨ k = (1, 0) ∨ k = (1, 2) ∨ k = (1, 3) ∨ k = (1, 4) ∨ k = (1, 6)
abbrev Kh (h h' : AH) : Prop := Kp (fun a => ¬ hk (zK h a)) h h'
theorem Kh.sm {h h' : AH} (w : Wf h) (x : Kh h h') {a t n : Nat} (ha : zK h a = (t, n)) (hh : hk (t, n)) : zK h' a = (t, n) ∧ Sm h h' a := by
  have ht : t ≠ 0 := by
    rcases hh with h1 | h1 | h1 | h1 | h1 | h1
    · omega
    all_goals (cases h1; decide)
  exact ⟨x.kd w ha ht, x.2.2 a (w.lt ha ht) (fun q => q (by rw [ha]; exact hh))⟩
theorem LsR.kh {h h' : AH} (w : Wf h) (x : Kh h h') {a e : Nat} {xs : List Nat} (hl : LsR h a e xs) : LsR h' a e xs := by
  obtain ⟨h1, h2, h3, h4⟩ := hl
  obtain ⟨k1, k2, -, -, k5⟩ := x.sm w h1 (Or.inr (Or.inl rfl))
  refine ⟨k1, by rw [k2]; exact h2, by rw [k5]; exact h3, h4.imp id ?_⟩
  rintro ⟨cap, c1, c2, c3, c4⟩
  obtain ⟨q1, -, -, -, q5⟩ := x.sm w c1 (Or.inl rfl)
  exact ⟨cap, q1, c2, c3, fun i hi => by rw [q5]; exact c4 i hi⟩
theorem LwR.kh {h h' : AH} (w : Wf h) (x : Kh h h') {a : Nat} {v : Lw} (hl : LwR h a v) : LwR h' a v := by
  obtain ⟨h0, h1, h2, h3, h4, h5⟩ := hl
  obtain ⟨k1, k2, -⟩ := x.sm w h1 (Or.inr (Or.inr (Or.inr (Or.inr (Or.inl rfl)))))
  exact ⟨h0, k1, by rw [k2]; exact h2, by rw [k2]; exact h3, by rw [k2]; exact h4, by rw [k2]; exact h5⟩
theorem LgR.kh {h h' : AH} (w : Wf h) (x : Kh h h') {y p : Nat} {ws : List Lw} (hl : LgR h y p ws) : LgR h' y p ws := by
  obtain ⟨h1, h2, e, ys, h3, h4, h5⟩ := hl
  obtain ⟨k1, k2, -, -, k5⟩ := x.sm w h1 (Or.inr (Or.inr (Or.inr (Or.inl rfl))))
  exact ⟨k1, by rw [k2]; exact h2, e, ys, by rw [k5]; exact h3.kh w x, h4, fun i hi => (h5 i hi).kh w x⟩
theorem LnR.kh {h h' : AH} (w : Wf h) (x : Kh h h') {a : Nat} {v : Ln} (hl : LnR h a v) : LnR h' a v := by
  obtain ⟨h1, h2, h3, h4, h5⟩ := hl
  obtain ⟨k1, k2, -⟩ := x.sm w h1 (Or.inr (Or.inr (Or.inr (Or.inr (Or.inr rfl)))))
  exact ⟨k1, by rw [k2]; exact h2, by rw [k2]; exact h3, by rw [k2]; exact h4, by rw [k2]; exact h5⟩
theorem LgsR.kh {h h' : AH} (w : Wf h) (x : Kh h h') {a n : Nat} {p : Nat → Nat} {ls : Nat → List Lw} (hl : LgsR h a n p ls) : LgsR h' a n p ls := by
  obtain ⟨e, xs, h1, h2, h3⟩ := hl
  exact ⟨e, xs, h1.kh w x, h2, fun l q => (h3 l q).kh w x⟩
theorem LnsR.kh {h h' : AH} (w : Wf h) (x : Kh h h') {a : Nat} {ln : List Ln} (hl : LnsR h a ln) : LnsR h' a ln := by
  obtain ⟨e, xs, h1, h2, h3⟩ := hl
  exact ⟨e, xs, h1.kh w x, h2, fun l q => (h3 l q).kh w x⟩
theorem HsR.kh {h h' : AH} (w : Wf h) (x : Kh h h') {hs : Nat} {D : HD} (hl : HsR h hs D) : HsR h' hs D := by
  obtain ⟨h1, h2, h3⟩ := hl
  obtain ⟨k1, -, -, -, k5⟩ := x.sm w h1 (Or.inr (Or.inr (Or.inl rfl)))
  exact ⟨k1, by rw [k5]; exact h2.kh w x, by rw [k5]; exact h3.kh w x⟩
/-- a word, where it comes from (0: the mother, n + 1: loan n), what has changed it -/
abbrev Cell3 : Type := List Nat × Nat × Nat
def brw (ln : List Ln) (T : Nat → Cell3) (l m t : Nat) : Nat → Cell3 → Cell3
  | 0, c => c
  | n + 1, c => if ((ln.getD n w0).2.2.1 = l ∧ (ln.getD n w0).1 = m ∧ (ln.getD n w0).2.2.2 = t) ∧ ¬ (T (ln.getD n w0).2.1).1 = [] then ((T (ln.getD n w0).2.1).1, n + 1, 0) else brw ln T l m t n c
def lst (f : Nat → Nat) (ws : List Lw) (t : Nat) (c : Cell3) : Cell3 := if t < ws.length then (if gov f (ws.getD t w0) c.1 = c.1 then c else (gov f (ws.getD t w0) c.1, c.2.1, c.2.2 ||| 2 ^ t)) else c
def inh (D : HD) (gv : Nat → List Nat) (T : Nat → Cell3) (l m : Nat) : Cell3 := if l = 0 then (gv m, 0, 0) else ((T (D.2.1 l)).1, (T (D.2.1 l)).2.1, 0)
def tel (D : HD) (f : Nat → Nat) (gv : Nat → List Nat) (T : Nat → Cell3) (l m : Nat) : Nat → Cell3
  | 0 => inh D gv T l m
  | t + 1 => lst f (D.2.2.1 l) t (brw D.2.2.2 T l m t D.2.2.2.length (tel D f gv T l m t))
def tbl (D : HD) (f : Nat → Nat) (gv : Nat → List Nat) (m : Nat) : Nat → Nat → Cell3
  | 0, _ => ([], 0, 0)
  | n + 1, l => if l = n then tel D f gv (tbl D f gv m n) n m 9 else tbl D f gv m n l
/-- the word of a language for a meaning -/
def cel (D : HD) (f : Nat → Nat) (gv : Nat → List Nat) (m l : Nat) : Cell3 := tbl D f gv m (l + 1) l
theorem tbl_cel {D : HD} {f : Nat → Nat} {gv : Nat → List Nat} {m l : Nat} : ∀ {n : Nat}, l < n → tbl D f gv m n l = cel D f gv m l
  | 0, h => absurd h (Nat.not_lt_zero _)
  | n + 1, h => by
    by_cases e : l = n
    · subst e; rfl
    · rw [tbl, if_neg e]
      exact tbl_cel (by omega)
def cOk (b t : Nat) (c : Cell3) : Prop := Wok c.1 ∧ c.2.1 ≤ b ∧ c.2.2 < 2 ^ t
theorem brw_ok {ln : List Ln} {T : Nat → Cell3} {l m t b : Nat} (hT : ∀ k, k < l → Wok (T k).1) {c : Cell3} (hc : cOk b t c) (hf : ∀ i, i < ln.length → (ln.getD i w0).2.1 < (ln.getD i w0).2.2.1) : ∀ n, n ≤ b → n ≤ ln.length → cOk b t (brw ln T l m t n c)
  | 0, _, _ => hc
  | n + 1, hb, hn => by
    unfold brw
    split
    · next hx =>
      refine ⟨hT _ ?_, hb, Nat.two_pow_pos t⟩
      have := hf n (by omega)
      omega
    · exact brw_ok hT hc hf n (by omega) (by omega)
theorem lst_ok {f : Nat → Nat} {ws : List Lw} {t b : Nat} {c : Cell3} (hc : cOk b t c) : cOk b (t + 1) (lst f ws t c) := by
  have h2 : c.2.2 < 2 ^ (t + 1) := by have := hc.2.2; rw [Nat.pow_succ]; omega
  unfold lst
  split
  · split
    · exact ⟨hc.1, hc.2.1, h2⟩
    · exact ⟨gov_wok hc.1, hc.2.1, Nat.or_lt_two_pow h2 (Nat.pow_lt_pow_right (by decide) (by omega))⟩
  · exact ⟨hc.1, hc.2.1, h2⟩
theorem inh_ok {D : HD} {gv : Nat → List Nat} {T : Nat → Cell3} {l m : Nat} (hD : hdOk D) (hl : l < D.1) (hT : ∀ k, k < l → cOk 12 9 (T k)) (hg : Wok (gv m)) : cOk 12 0 (inh D gv T l m) := by
  unfold inh
  split
  · exact ⟨hg, by simp, by simp⟩
  · have := hT _ (hD.2.2.1 l (by omega) hl)
    exact ⟨this.1, this.2.1, by simp⟩
theorem tel_ok {D : HD} {f : Nat → Nat} {gv : Nat → List Nat} {T : Nat → Cell3} {l m : Nat} (hD : hdOk D) (hl : l < D.1) (hT : ∀ k, k < l → cOk 12 9 (T k)) (hg : Wok (gv m)) : ∀ t, cOk 12 t (tel D f gv T l m t)
  | 0 => inh_ok hD hl hT hg
  | t + 1 => lst_ok (brw_ok (fun k hk => (hT k hk).1) (tel_ok hD hl hT hg t) (fun i hi => (hD.2.2.2.2.2 i hi).2.1) _ hD.2.2.2.2.1 (Nat.le_refl _))
theorem tbl_ok {D : HD} {f : Nat → Nat} {gv : Nat → List Nat} {m : Nat} (hD : hdOk D) (hg : Wok (gv m)) : ∀ n, n ≤ D.1 → ∀ l, cOk 12 9 (tbl D f gv m n l)
  | 0, _, l => ⟨wok_nil, by simp [tbl], by simp [tbl]⟩
  | n + 1, hn, l => by
    unfold tbl
    split
    · exact tel_ok hD (by omega) (fun k _ => tbl_ok hD hg n (by omega) k) hg 9
    · exact tbl_ok hD hg n (by omega) l
theorem cel_ok {D : HD} {f : Nat → Nat} {gv : Nat → List Nat} {m l : Nat} (hD : hdOk D) (hg : Wok (gv m)) (hl : l < D.1) : cOk 12 9 (cel D f gv m l) := tbl_ok hD hg (l + 1) hl l
