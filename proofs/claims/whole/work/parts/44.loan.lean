theorem brw_app {ln : List Ln} {x : Ln} {T : Nat → Cell3} {l m t : Nat} {c : Cell3} : ∀ n, n ≤ ln.length → brw (ln ++ [x]) T l m t n c = brw ln T l m t n c
  | 0, _ => rfl
  | n + 1, h => by
    have e : (ln ++ [x]).getD n w0 = ln.getD n w0 := by rw [getD_snocG, if_neg (by omega)]
    unfold brw
    rw [e, brw_app n (by omega)]
theorem tel_addN {D : HD} {x : Ln} {f : Nat → Nat} {gv : Nat → List Nat} {T T' : Nat → Cell3} {l m : Nat} (hm : m ≠ x.1) (hT : T = T') : ∀ t, tel (addN D x) f gv T l m t = tel D f gv T' l m t
  | 0 => by subst hT; rfl
  | t + 1 => by
    subst hT
    unfold tel
    rw [tel_addN hm rfl t]
    have e1 : (addN D x).2.2.2 = D.2.2.2 ++ [x] := rfl
    have e2 : (addN D x).2.2.1 = D.2.2.1 := rfl
    have e3 : (D.2.2.2 ++ [x]).getD D.2.2.2.length w0 = x := by rw [getD_snocG, if_pos rfl]
    rw [e1, e2, List.length_append]
    show lst f (D.2.2.1 l) t (brw (D.2.2.2 ++ [x]) T l m t (D.2.2.2.length + 1) _) = _
    rw [brw, e3, if_neg (fun q => hm q.1.2.1.symm), brw_app _ (Nat.le_refl _)]
theorem tbl_addN {D : HD} {x : Ln} {f : Nat → Nat} {gv : Nat → List Nat} {m : Nat} (hm : m ≠ x.1) : ∀ n, tbl (addN D x) f gv m n = tbl D f gv m n
  | 0 => rfl
  | n + 1 => by
    funext l
    unfold tbl
    split
    · exact tel_addN hm (tbl_addN hm n) 9
    · exact congrFun (tbl_addN hm n) l
theorem cel_addN {D : HD} {x : Ln} {f : Nat → Nat} {gv : Nat → List Nat} {m l : Nat} (hm : m ≠ x.1) : cel (addN D x) f gv m l = cel D f gv m l := congrFun (tbl_addN hm (l + 1)) l
/-- the caches that a heap keeps for the other meanings, also when a loan is added -/
theorem FamR.ntell {h h1 h2 : AH} {n : Ln} {f : Nat → Nat} {gv : Nat → List Nat} {op : Nat} {D : HD} (hf : FamR h f gv op D) (w1 : Wf h1) (hm : n.1 < 12) (fb : FamB h1 f gv op (addN D n))
    (e1 : zI h1 35 = zI h 35 ∧ zI h1 42 = zI h 42 ∧ (zL h1 32 = zL h 32 ∧ zI h1 33 = zI h 33 ∧ zI h1 34 = zI h 34) ∧ (zL h1 39 = zL h 39 ∧ zI h1 40 = zI h 40 ∧ zI h1 41 = zI h 41) ∧ ∀ k, k < 12 → zI h1 (87 + k) = zI h (87 + k)) (y : Fgt n.1 h1 h2) : FamR h2 f gv op (addN D n) := by
  obtain ⟨-, -, ⟨-, -, l1⟩, ⟨-, -, l2⟩, -, -, -, -, kc⟩ := hf
  obtain ⟨q1, q2, ⟨q3, q4, q5⟩, ⟨q6, q7, q8⟩, q9⟩ := e1
  have ce : ∀ k l, k ≠ n.1 → cel (addN D n) f gv k l = cel D f gv k l := fun k l e => cel_addN e
  refine Fgt.r w1 hm fb (fun k hk e => ?_) (fun k hk e => ?_) (fun k hk e i j a1 a2 => ?_) y
  · rw [q1]
    refine (l1 k hk).imp id fun q => ⟨q.1, fun l hl => ?_⟩
    have := q.2 l hl
    rw [ce _ _ e]
    exact ⟨by rw [q3]; exact this.1, by rw [show 32 + 1 = 33 from rfl, q4]; exact this.2.1, by rw [show 32 + 2 = 34 from rfl, q5]; exact this.2.2⟩
  · rw [q2]
    refine (l2 k hk).imp id fun q => ⟨q.1, fun l hl => ?_⟩
    have := q.2 l hl
    exact ⟨by rw [q6]; exact this.1, by rw [show 39 + 1 = 40 from rfl, q7]; exact this.2.1, by rw [show 39 + 2 = 41 from rfl, q8]; exact this.2.2⟩
  · rw [q9 k hk, ce _ _ e, ce _ _ e]
    exact kc k hk i j a1 a2
