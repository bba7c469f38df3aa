/-! ===== locals ===== -/
def lg : List AV → Nat → AV
  | [], _ => vU
  | v :: _, 0 => v
  | _ :: r, n + 1 => lg r n
def lset : List AV → Nat → AV → List AV
  | [], _, _ => []
  | _ :: r, 0, v => v :: r
  | a :: r, n + 1, v => a :: lset r n v
def lkill (L : List AV) (j : Nat) : List AV := match lg L j with
  | .inr (.inl _) => lset L j vU
  | .inr (.inr (.inl _)) => lset L j vU
  | _ => L
def st1 (L : List AV) (i : Nat) (v : AV) : List AV := match i with
  | 0 => lset L 0 v
  | j + 1 => lset (lkill L j) (j + 1) v
def st2 (L : List AV) (i : Nat) (v : AV) : List AV := lset (st1 L i v) (i + 1) vU
theorem lset_len (L : List AV) : ∀ (i : Nat) (v : AV), (lset L i v).length = L.length := by
  induction L with
  | nil => intro i v; rfl
  | cons a r ih => intro i v; cases i with
    | zero => rfl
    | succ n => simp [lset, ih]
theorem lset_lg (L : List AV) : ∀ (i : Nat) (v : AV) (j : Nat), i < L.length → lg (lset L i v) j = if j = i then v else lg L j := by
  induction L with
  | nil => intro i v j h; simp at h
  | cons a r ih =>
    intro i v j h
    cases i with
    | zero => cases j with
      | zero => rfl
      | succ j => simp [lset, lg]
    | succ i => cases j with
      | zero => simp [lset, lg]
      | succ j => simp only [lset, lg]; rw [ih i v j (by simpa using h)]; simp
theorem lg_some {L : List AV} : ∀ {i : Nat} {v : AV}, lg L i = v → v ≠ vU → L[i]? = some v := by
  induction L with
  | nil => intro i v h hv; exact absurd h.symm hv
  | cons a r ih => intro i v h hv; cases i with
    | zero => simp only [lg] at h; simp [h]
    | succ i => simp only [lg] at h; simpa using ih h hv
theorem some_lg {L : List AV} : ∀ {i : Nat} {v : AV}, L[i]? = some v → lg L i = v := by
  induction L with
  | nil => intro i v h; simp at h
  | cons a r ih => intro i v h; cases i with
    | zero => simp only [List.getElem?_cons_zero, Option.some.injEq] at h; simp [lg, h]
    | succ i => simp only [List.getElem?_cons_succ] at h; simpa [lg] using ih h
theorem lkill_len (L : List AV) (j : Nat) : (lkill L j).length = L.length := by
  unfold lkill
  split <;> simp [lset_len]
theorem lkill_lg (g : Gp) (L : List AV) (j k : Nat) (h : j < L.length) : lg (lkill L j) k = if k = j ∧ (tv g (lg L j)).category = 2 then vU else lg L k := by
  unfold lkill
  split
  · rename_i x hx
    rw [lset_lg _ _ _ _ h]
    simp [hx, tv, Value.category]
  · rename_i x hx
    rw [lset_lg _ _ _ _ h]
    simp [hx, tv, Value.category]
  · rename_i h1 h2
    have : ¬ (tv g (lg L j)).category = 2 := fun hc => by
      rcases (tv_cat2 g _).mp hc with ⟨x, hx⟩ | ⟨x, hx⟩
      · exact h1 _ hx
      · exact h2 _ hx
    simp [this]
theorem st1_len (L : List AV) (i : Nat) (v : AV) : (st1 L i v).length = L.length := by
  unfold st1
  split <;> simp [lset_len, lkill_len]
theorem st2_len (L : List AV) (i : Nat) (v : AV) : (st2 L i v).length = L.length := by
  unfold st2
  rw [lset_len, st1_len]
theorem st1_lg (g : Gp) (L : List AV) (i j : Nat) (v : AV) (h : i < L.length) : lg (st1 L i v) j = if j = i then v else if j + 1 = i ∧ (tv g (lg L j)).category = 2 then vU else lg L j := by
  unfold st1
  split
  · rw [lset_lg _ _ _ _ h]; simp
  · rename_i k
    rw [lset_lg _ _ _ _ (by rw [lkill_len]; exact h), lkill_lg g _ _ _ (by omega)]
    by_cases h1 : j = k + 1
    · simp [h1]
    · by_cases h2 : j = k
      · simp [h2]
      · simp [h1, h2]
/-- all that is known of the locals -/
def lvp (g : Gp) (L : List AV) : List (Nat × Value) := (List.range L.length).filterMap (fun i => if lg L i = vU then none else some (i, tv g (lg L i)))
theorem lvp_mem {g : Gp} {L : List AV} {q : Nat × Value} : q ∈ lvp g L ↔ q.1 < L.length ∧ lg L q.1 ≠ vU ∧ q.2 = tv g (lg L q.1) := by
  unfold lvp
  rw [List.mem_filterMap]
  constructor
  · rintro ⟨i, h1, h2⟩
    split at h2
    · cases h2
    · rename_i h3
      cases h2
      exact ⟨List.mem_range.mp h1, h3, rfl⟩
  · rintro ⟨h1, h2, h3⟩
    refine ⟨q.1, List.mem_range.mpr h1, ?_⟩
    rw [if_neg h2, ← h3]
theorem lg_lt {L : List AV} {i : Nat} (h : lg L i ≠ vU) : i < L.length := (List.getElem?_eq_some_iff.mp (lg_some rfl h)).1
theorem LR.has {g : Gp} {L : List AV} {ls : Array Slot} (h : LR g L ls) : lv_has ls L.length (lvp g L) := by
  refine ⟨h.1, h.2.1, fun q hq => ?_⟩
  obtain ⟨h1, h2, h3⟩ := lvp_mem.mp hq
  rw [h3]
  exact h.2.2 _ _ (lg_some rfl h2) h2
theorem LR.at {g : Gp} {L : List AV} {ls : Array Slot} (h : LR g L ls) {i : Nat} {v : AV} (hv : lg L i = v) (hu : v ≠ vU) : ls[i]? = some (.val (tv g v)) := h.2.2 i v (lg_some hv hu) hu
theorem LR.of {g : Gp} {L : List AV} {ls : Array Slot} {lv : List (Nat × Value)} {n : Nat} (h : lv_has ls n lv) (hn : n = L.length) (hm : ∀ i, lg L i ≠ vU → (i, tv g (lg L i)) ∈ lv) : LR g L ls :=
  ⟨h.1.trans hn, h.2.1, fun i v hi hv => by have e := some_lg hi; have := h.2.2 _ (hm i (by rw [e]; exact hv)); rw [e] at this; exact this⟩
theorem LR.set1 {g : Gp} {L : List AV} {ls' : Array Slot} {i : Nat} {v : AV} {n : Nat} {x : Value} (hn : n = L.length) (hi : i < L.length) (hx : x = tv g v) (h : lv_has ls' n ((i, x) :: (lvp g L).filter (fun q => !(q.1 == i) && !(q.1 + 1 == i && q.2.category == 2)))) : LR g (st1 L i v) ls' := by
  refine LR.of h (by rw [st1_len]; exact hn) (fun j hj => ?_)
  rw [st1_lg g _ _ _ _ hi] at hj ⊢
  by_cases h1 : j = i
  · subst h1
    simp [hx]
  · rw [if_neg h1] at hj ⊢
    by_cases h2 : j + 1 = i ∧ (tv g (lg L j)).category = 2
    · rw [if_pos h2] at hj; exact absurd rfl hj
    · rw [if_neg h2] at hj ⊢
      refine List.mem_cons_of_mem _ (List.mem_filter.mpr ⟨lvp_mem.mpr ⟨lg_lt hj, hj, rfl⟩, ?_⟩)
      simp [h1]
      omega
theorem LR.set2 {g : Gp} {L : List AV} {ls' : Array Slot} {i : Nat} {v : AV} {n : Nat} {x : Value} (hn : n = L.length) (hi : i + 1 < L.length) (hx : x = tv g v) (h : lv_has ls' n ((i, x) :: (lvp g L).filter (fun q => !(q.1 == i) && (!(q.1 == i + 1) && !(q.1 + 1 == i && q.2.category == 2))))) : LR g (st2 L i v) ls' := by
  refine LR.of h (by rw [st2_len]; exact hn) (fun j hj => ?_)
  unfold st2 at hj ⊢
  rw [lset_lg _ _ _ _ (by rw [st1_len]; exact hi), st1_lg g _ _ _ _ (by omega)] at hj ⊢
  by_cases h0 : j = i + 1
  · rw [if_pos h0] at hj; exact absurd rfl hj
  · rw [if_neg h0] at hj ⊢
    by_cases h1 : j = i
    · subst h1
      simp [hx]
    · rw [if_neg h1] at hj ⊢
      by_cases h2 : j + 1 = i ∧ (tv g (lg L j)).category = 2
      · rw [if_pos h2] at hj; exact absurd rfl hj
      · rw [if_neg h2] at hj ⊢
        refine List.mem_cons_of_mem _ (List.mem_filter.mpr ⟨lvp_mem.mpr ⟨lg_lt hj, hj, rfl⟩, ?_⟩)
        simp [h1, h0]
        omega
/-- some locals are forgotten -/
def lsub : List AV → List AV → Prop
  | [], [] => True
  | a :: r, b :: q => (a = vU ∨ a = b) ∧ lsub r q
  | _, _ => False
theorem lsub_len : ∀ {L' L : List AV}, lsub L' L → L'.length = L.length
  | [], [], _ => rfl
  | _ :: _, _ :: _, h => by simp only [List.length_cons]; rw [lsub_len h.2]
theorem lsub_lg : ∀ {L' L : List AV} {i : Nat}, lsub L' L → lg L' i ≠ vU → lg L i = lg L' i
  | [], [], _, _, _ => rfl
  | a :: r, b :: q, 0, h, hv => by
    rcases h.1 with e | e
    · exact absurd e hv
    · exact e.symm
  | a :: r, b :: q, n + 1, h, hv => lsub_lg (L' := r) (L := q) h.2 hv
theorem Ex.forget {g : Gp} {M : MD} {pc : Nat} {L L' st : List AV} {h : AH} {u : Nat × Nat} {Q : PQ} (hs : lsub L' L) (k : Ex g M pc L' st h u Q) : Ex g M pc L st h u Q := by
  intro p l e s m args below meth c H locs ls hC hR hS hL hl h1 h2
  refine k p l e s m args below meth c H locs ls hC hR hS ⟨hL.1.trans (lsub_len hs).symm, hL.2.1, fun i v hi hv => ?_⟩ ((lsub_len hs).trans hl) h1 h2
  have e := some_lg hi
  have e2 := lsub_lg (i := i) hs (by rw [e]; exact hv)
  exact hL.at (e2.trans e) hv
