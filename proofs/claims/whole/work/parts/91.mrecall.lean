/-! ===== the model recalls: pure ===== -/
theorem kin_c {c d : Cell3} : kin c d ↔ kin d c := ⟨fun q => ⟨q.2.1, q.1, q.2.2.symm⟩, fun q => ⟨q.2.1, q.1, q.2.2.symm⟩⟩
def bm (c : Nat → Nat) : Nat → Nat
  | 0 => 0
  | s + 1 => if c (bm c s) < c (s + 1) then s + 1 else bm c s
theorem bm_le (c : Nat → Nat) : ∀ n, bm c n ≤ n
  | 0 => Nat.le_refl _
  | n + 1 => by
    have := bm_le c n
    rw [bm]
    split <;> omega
theorem wn_ge {c : Nat → Nat} : ∀ n s, s < n → c s ≤ (wn c n).2
  | 0, _, h => absurd h (Nat.not_lt_zero _)
  | n + 1, s, h => by
    rw [wn]
    by_cases e : s = n
    · subst e
      split
      · exact Nat.le_refl _
      · omega
    · have := wn_ge (c := c) n s (by omega)
      split
      · show c s ≤ c n; omega
      · exact this
theorem wn_bm {c : Nat → Nat} : ∀ s, (wn c (s + 1)).2 = c (bm c s) ∧ ((wn c (s + 1)).1 = bm c s + 1 ∨ ((wn c (s + 1)).1 = 0 ∧ c (bm c s) = 0))
  | 0 => by
    show (if 0 < c 0 then (1, c 0) else (0, 0)).2 = c 0 ∧ ((if 0 < c 0 then (1, c 0) else (0, 0)).1 = 0 + 1 ∨ ((if 0 < c 0 then (1, c 0) else (0, 0)).1 = 0 ∧ c 0 = 0))
    by_cases e : 0 < c 0
    · rw [if_pos e]; exact ⟨rfl, Or.inl rfl⟩
    · rw [if_neg e]; exact ⟨by show 0 = c 0; omega, Or.inr ⟨rfl, by omega⟩⟩
  | s + 1 => by
    obtain ⟨h1, h2⟩ := wn_bm (c := c) s
    rw [wn, bm, h1]
    by_cases e : c (bm c s) < c (s + 1)
    · rw [if_pos e, if_pos e]; exact ⟨rfl, Or.inl rfl⟩
    · rw [if_neg e, if_neg e]; exact ⟨h1, h2⟩
theorem wn_17 {c : Nat → Nat} {s : Nat} (hs : s < 17) (h : 0 < c s) : (wn c 17).1 = bm c 16 + 1 := by
  have h1 := wn_ge 17 s hs (c := c)
  obtain ⟨h2, h3⟩ := wn_bm (c := c) 16
  exact h3.resolve_right fun q => by rw [h2, q.2] at h1; omega
theorem rcs_z {D : HD} {f : Nat → Nat} {gv : Nat → List Nat} {m l : Nat} : ∀ d, (∀ k, k < d → ¬ wit D f gv m l k) → (rcs D f gv m l d).1 = 0
  | 0, _ => rfl
  | d + 1, h => by
    rw [rcs_n (h d (by omega))]
    exact rcs_z d fun k hk => h k (by omega)
theorem rcs_f {D : HD} {f : Nat → Nat} {gv : Nat → List Nat} {m l a : Nat} (wa : wit D f gv m l a) (na : ∀ k, k < a → ¬ wit D f gv m l k) : (rcs D f gv m l (a + 1)) = (a + 1, opn (cel D f gv m a).1) ∧ ∀ d, (rcs D f gv m l (a + 1 + d)).1 = a + 1 := by
  have h0 : rcs D f gv m l (a + 1) = (a + 1, opn (cel D f gv m a).1) := by
    rw [rcs_p wa, if_pos (rcs_z a na)]
  refine ⟨h0, fun d => ?_⟩
  induction d with
  | zero => rw [Nat.add_zero, h0]
  | succ d ih =>
    by_cases e : wit D f gv m l (a + 1 + d)
    · rw [← Nat.add_assoc, rcs_p e, if_neg (by rw [ih]; omega)]
      exact ih
    · rw [← Nat.add_assoc, rcs_n e]
      exact ih
theorem rcs_pos {D : HD} {f : Nat → Nat} {gv : Nat → List Nat} {m l a : Nat} (wa : wit D f gv m l a) (na : ∀ k, k < a → ¬ wit D f gv m l k) (p : Nat) : ∀ d, 0 < (rcs D f gv m l (a + 1 + d)).2 p ((cel D f gv m a).1.getD p 0)
  | 0 => by
    rw [Nat.add_zero, (rcs_f wa na).1]
    show 0 < opn _ _ _
    unfold opn
    rw [if_pos rfl]
    decide
  | d + 1 => by
    have ih := rcs_pos wa na p d
    by_cases e : wit D f gv m l (a + 1 + d)
    · rw [← Nat.add_assoc, rcs_p e, if_neg (by rw [(rcs_f wa na).2 d]; omega)]
      exact Nat.lt_of_lt_of_le ih (cas_le _).1
    · rw [← Nat.add_assoc, rcs_n e]
      exact ih
/-- the votes as the model keeps them -/
def VM (h : AH) (V : Nat → Nat → Nat) (L : Nat) : Prop := ∀ p, p < L → ∀ s, s < 17 → zI h 121 (p * 17 + s) = nI (V p s)
theorem VM.add {h : AH} {V : Nat → Nat → Nat} {L p s : Nat} (hs : s < 17) (x : VM h V L) : VM (sI h 121 (p * 17 + s) (nI (V p s + 1))) (fun p' s' => if p' = p ∧ s' = s then V p' s' + 1 else V p' s') L := fun p' hp' s' hs' => by
  rw [zI_sI]
  show _ = nI (if p' = p ∧ s' = s then V p' s' + 1 else V p' s')
  by_cases e : p' = p ∧ s' = s
  · rw [if_pos e, e.1, e.2, up1_s]
  · rw [if_neg e, up1_n _ _ (by omega)]
    exact x p' hp' s' hs'
theorem mk_17 {a b : Nat} : nI a * 17 + nI b = nI (a * 17 + b) := by rw [show (17 : Int32) = nI 17 from rfl, pk_mul, nI_add]
theorem mk_17a {a : Nat} : nI a * 17 = nI (a * 17) := by rw [show (17 : Int32) = nI 17 from rfl, pk_mul]
