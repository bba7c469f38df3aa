/-! ===== costs ===== -/
theorem lc_c {f : Nat → Nat} : ∀ a b : List Nat, lc f a b = lc f b a := by
  intro a
  induction a with
  | nil =>
    intro b
    rw [lc_nil]
    rfl
  | cons x l ih =>
    intro b
    induction b with
    | nil => rw [lc_nil]; rfl
    | cons y m ih2 =>
      rw [lc_cons, lc_cons, ih (y :: m), ih2, ih m, cst_c, Nat.min_comm (lc f (y :: m) l)]
theorem cwo_c {f : Nat → Nat} {a b : List Nat} : cwo f a b = cwo f b a := by
  unfold cwo
  by_cases h : a = [] ∨ b = []
  · rw [if_pos h, if_pos (Or.comm.mp h)]
  · rw [if_neg h, if_neg (fun q => h (Or.comm.mp q)), lc_c]
theorem nI_max {a b : Nat} (ha : a < 2 ^ 31) (hb : b < 2 ^ 31) : (if nI a < nI b then nI b else nI a) = nI (max a b) := by
  by_cases h : a < b
  · rw [if_pos (nI_lt h hb)]; congr 1; omega
  · rw [if_neg (nI_nlt (by omega) ha)]; congr 1; omega
/-- what a cost that is asked for changes -/
def Kc (m : Nat) (h h' : AH) : Prop := zK h' = zK h ∧ zR h' = zR h ∧ Kp (fun a => (48 ≤ a ∧ a ≤ 62) ∨ a = 87 + m) h h'
theorem Kc.cr {m k : Nat} {h h' : AH} {c : Cell3} (w : Wf h) (lx : LxS h 31 32) (y : Kc m h h') (hm : m < 12) (hc : CR h 32 k c) : CR h' 32 k c := by
  obtain ⟨-, -, -, -, -, -, -, d1, d2, d3, -⟩ := lx
  have s1 := y.2.2.2.2 32 (w.lt d1 (by decide)) (by omega)
  have s2 := y.2.2.2.2 33 (w.lt d2 (by decide)) (by omega)
  have s3 := y.2.2.2.2 34 (w.lt d3 (by decide)) (by omega)
  exact ⟨by rw [s1.2.1]; exact hc.1, by rw [show 32 + 1 = 33 from rfl, s2.1]; exact hc.2.1, by rw [show 32 + 2 = 34 from rfl, s3.1]; exact hc.2.2⟩
theorem Kc.fam {m : Nat} {h h' : AH} {f : Nat → Nat} {gv : Nat → List Nat} {op : Nat} {D : HD} (w : Wf h) (hf : FamR h f gv op D) (hm : m < 12) (y : Kc m h h') (kc : ∀ i j, i ≤ j → j < D.1 → zI h' (87 + m) (i * 10 + j) = -2 ∨ zI h' (87 + m) (i * 10 + j) = hI (cwo f (cel D f gv m i).1 (cel D f gv m j).1)) : FamR h' f gv op D := by
  have hb := hf.b
  have fb := hb.kp w y.2.2 (fun a q => by unfold dat; omega) fun a _ _ => by rw [y.2.1]
  obtain ⟨-, -, ⟨-, -, l1⟩, ⟨-, -, l2⟩, -, -, -, -, kc0⟩ := hf
  have b4 := hb.2.2.1.2
  have b6 := hb.2.2.2.1.2
  have b10 := hb.2.2.2.2.2.2.2
  have s35 := y.2.2.2.2 35 (w.lt b4.2.2.2.2.2.2.2.2.2.2.1 (by decide)) (by omega)
  obtain ⟨-, -, -, -, -, -, -, d1, d2, d3, d4, -⟩ := b6
  have s39 := y.2.2.2.2 39 (w.lt d1 (by decide)) (by omega)
  have s40 := y.2.2.2.2 40 (w.lt d2 (by decide)) (by omega)
  have s41 := y.2.2.2.2 41 (w.lt d3 (by decide)) (by omega)
  have s42 := y.2.2.2.2 42 (w.lt d4 (by decide)) (by omega)
  refine fb.r ⟨fb.2.2.1.2, fun k hk => ?_⟩ ⟨fb.2.2.2.1.2, fun k hk => ?_⟩ fun k hk i j q1 q2 => ?_
  · rw [show 32 + 3 = 35 from rfl, s35.1]
    exact (l1 k hk).imp id fun q => ⟨q.1, fun l hl => Kc.cr w b4 y hm (q.2 l hl)⟩
  · rw [show 39 + 3 = 42 from rfl, s42.1]
    refine (l2 k hk).imp id fun q => ⟨q.1, fun l hl => ?_⟩
    have := q.2 l hl
    exact ⟨by rw [s39.2.1]; exact this.1, by rw [show 39 + 1 = 40 from rfl, s40.1]; exact this.2.1, by rw [show 39 + 2 = 41 from rfl, s41.1]; exact this.2.2⟩
  · by_cases e : k = m
    · rw [e]; exact kc i j q1 q2
    · rw [(y.2.2.2.2 (87 + k) (w.lt (b10.2 k hk).2 (by decide)) (by omega)).1]
      exact kc0 k hk i j q1 q2
