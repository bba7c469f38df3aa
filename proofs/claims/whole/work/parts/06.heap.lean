/-! ===== the rules of the heap: what is kept, what comes ===== -/
theorem up1_s {α : Type} (f : Nat → α) (a : Nat) (v : α) : up1 f a v a = v := if_pos rfl
theorem up1_n {α : Type} (f : Nat → α) {a b : Nat} (v : α) (h : b ≠ a) : up1 f a v b = f b := if_neg h
theorem ent_congr {g : Gp} {h h' : AH} {b : Nat} (h1 : zK h' b = zK h b) (h2 : zI h' b = zI h b) (h3 : zL h' b = zL h b) (h4 : zD h' b = zD h b) (h5 : zR h' b = zR h b) : ent g h' b = ent g h b := by
  have hf : ∀ c, fv g h' c b = fv g h c b := fun c => by funext k; simp only [fv, h2, h3, h5]
  unfold ent
  rw [h1]
  simp only [entk, h2, h3, h4, h5, hf]
theorem Rep.ge {g : Gp} {h : AH} {H : Heap} (hR : Rep g h H) {a : Nat} (ha : (zK h a).1 ≠ 0) : 4 ≤ a ∧ a < zN h := by
  have := hR.2.2.1 a
  omega
theorem adr_ge {g : Gp} {a : Nat} (h : 4 ≤ a) : adr g a = gN g + (a - 4) := by unfold adr; rw [if_neg (by omega), if_neg (by omega), if_neg (by omega)]
theorem Rep.put {g : Gp} {h h' : AH} {H H1 : Heap} {a : Nat} (hR : Rep g h H) (hn : zN h' = zN h) (hk : ∀ b, zK h' b = zK h b) (ho : ∀ b, b ≠ a → ent g h' b = ent g h b) (ha : (zK h a).1 ≠ 0) (hnew : va_at (gD g) clt (adr g a, ent g h' a) H1) (hsz : H1.size = H.size) (hoq : ∀ q : Nat, q ≠ adr g a → H1[q]? = H[q]?) : Rep g h' H1 := by
  refine ⟨by rw [hn]; exact hR.1, by rw [hn, hsz]; exact hR.2.1, fun b hb => by rw [hk]; rw [hn] at hb; exact hR.2.2.1 b hb, fun b hb => ?_⟩
  rw [hk] at hb
  by_cases e : b = a
  · subst e; exact hnew
  · rw [ho b e]
    refine (hR.2.2.2 b hb).kept (hoq _ ?_)
    have h1 := hR.ge ha
    have h2 := hR.ge hb
    show adr g b ≠ adr g a
    rw [adr_ge h1.1, adr_ge h2.1]
    omega
theorem Rep.at1 {g : Gp} {h : AH} {H : Heap} (hR : Rep g h H) {a t n : Nat} (ha : zK h a = (t, n)) (ht : t ≠ 0) : va_at (gD g) clt (adr g a, entk g h a t n) H := by
  have := hR.2.2.2 a (by rw [ha]; exact ht)
  unfold ent at this
  rw [ha] at this
  exact this
theorem va_P1 {D : va_G} {cl : List vw_C} {q : Nat × va_E} {H : Heap} (h : va_at D cl q H) : va_P D cl [q] H := fun k x hx => by
  match k, hx with
  | 0, hx => cases hx; exact h
  | k + 1, hx => simp at hx
theorem tv_ref {g : Gp} {a : Nat} (h : a ≠ 0) : tv g (vR a) = .ref (adr g a) := by simp [tv, rv, h]
theorem Rep.ne0 {g : Gp} {h : AH} {H : Heap} (hR : Rep g h H) {a t n : Nat} (ha : zK h a = (t, n)) (ht : t ≠ 0) : a ≠ 0 := by
  have := hR.ge (a := a) (by rw [ha]; exact ht)
  omega
theorem Rep.adr_in {g : Gp} {h : AH} {H : Heap} (hR : Rep g h H) {a t n : Nat} (ha : zK h a = (t, n)) (ht : t ≠ 0) : gAd g (adr g a) := by
  have := hR.ge (a := a) (by rw [ha]; exact ht)
  rw [adr_ge this.1]
  show gN g ≤ _
  omega
/-! ===== fields ===== -/
theorem cok : ∀ (c : Nat) (q : vw_C), clt[c]? = some q → (∀ w ∈ u_ws q.1 q.2.1 q.2.2, w ∈ lw_tbl) ∧ (∀ k, k < q.2.2 → parseFieldDescriptor (q.2.1 k).2.2.1 = some (cty c k)) ∧ ∀ a, a < q.2.2 → ∀ b, b < q.2.2 → a ≠ b → (q.2.1 a).2.1 ≠ (q.2.1 b).2.1 := by
  intro c q hq
  match c, hq with
  | 0, hq => cases hq; exact ⟨by decide +kernel, tyJx4a65c_ok, nmJx4a65c⟩
  | 1, hq => cases hq; exact ⟨by decide +kernel, tyX0_ok, nmX0⟩
  | 2, hq => cases hq; exact ⟨by decide +kernel, tyX1_ok, nmX1⟩
  | 3, hq => cases hq; exact ⟨by decide +kernel, tyX2_ok, nmX2⟩
  | 4, hq => cases hq; exact ⟨by decide +kernel, tyX3_ok, nmX3⟩
  | 5, hq => cases hq; exact ⟨by decide +kernel, tyX4_ok, nmX4⟩
  | 6, hq => cases hq; exact ⟨by decide +kernel, tyX5_ok, nmX5⟩
  | 7, hq => cases hq; exact ⟨by decide +kernel, tyX6_ok, nmX6⟩
  | 8, hq => cases hq; exact ⟨by decide +kernel, tyX7_ok, nmX7⟩
  | 9, hq => cases hq; exact ⟨by decide +kernel, tyX9_ok, nmX9⟩
  | 10, hq => cases hq; exact ⟨by decide +kernel, tyX10_ok, nmX10⟩
  | c + 11, hq => simp [clt] at hq
theorem cok_g : ∀ (c : Nat) (q : vw_C), clt[c]? = some q → ∀ w ∈ u_ws q.1 q.2.1 q.2.2, w ∈ lw_g := by
  intro c q hq w hw
  refine lg_mem ((cok c q hq).1 w hw) ?_
  unfold u_ws at hw
  obtain ⟨k, -, rfl⟩ := List.mem_map.mp hw
  unfold u_lay
  split <;> rfl
/-- a field's entry: class, place, kind -/
def FOk (own : String) (i c k t : Nat) : Prop := ∃ (q : vw_C) (ref : String), clt[c]? = some q ∧ k < q.2.2 ∧ ftc (cty c k) = t ∧ t < 3 ∧ Cond.fieldLink own i ref (q.2.1 k).2.1 (q.2.1 k).2.2.1 ∈ lw_g ∧ (ref = (q.2.1 k).1 ∨ Cond.sameField ref (q.2.1 k).1 (q.2.1 k).2.1 (q.2.1 k).2.2.1 ∈ lw_g)
def fvv (h : AH) (t a k : Nat) : AV := match t with
  | 0 => vI (zI h a k)
  | 1 => vL (zL h a k)
  | _ => vR (zR h a k)
theorem fv_fvv {g : Gp} {h : AH} {c a k t : Nat} (ht : ftc (cty c k) = t) (h3 : t < 3) : fv g h c a k = tv g (fvv h t a k) := by
  unfold fv
  rw [ht]
  match t, h3 with
  | 0, _ => rfl
  | 1, _ => rfl
  | 2, _ => rfl
theorem nfl_of {c : Nat} {q : vw_C} (hq : clt[c]? = some q) : nfl c = q.2.2 := by unfold nfl; rw [hq]
theorem x_getfield {g : Gp} {M : MD} {pc : Nat} {L st : List AV} {h : AH} {u : Nat × Nat} {Q : PQ} {i c k t a : Nat} (hf : FOk (mO M) i c k t) (ha : zK h a = (1, c)) (hd : decode (mB M) pc = .ok (.getfield i, 3)) (kk : Ex g M (pc + 3) L (fvv h t a k :: st) h u Q) : Ex g M pc L (vR a :: st) h u Q := by
  intro p l e s m args below meth cd H locs ls hC hR hS hL hl h1 h2
  obtain ⟨hx, hb, hrt, hml, how, hts, hlk, hnm, hK, hO, hlt, htb⟩ := id hC
  obtain ⟨⟨C, T, N⟩, ref, hq, hk, ht, h3, hw, hs⟩ := hf
  have hat := hR.at1 ha Nat.one_ne_zero
  have kq := kk p l e s m args below meth cd H locs ls hC hR hS hL hl h1 h2
  rw [List.map_cons, tv_ref (hR.ne0 ha Nat.one_ne_zero)]
  rw [List.map_cons, ← fv_fvv (g := g) (c := c) ht h3] at kq
  refine va_get (D := gD g) (ci := c) (C := C) (T := T) (N := N) hx hb hts (cok_g c _ hq) how hK (va_P1 hat) 0 rfl hq k hk (hts _ hw) ?_ ?_ hd kq
  · intro x hx2
    rcases hs with e | e
    · rw [e]; exact hx2
    · exact u_same (hts _ e) x hx2
  · simp [nfl_of hq, hk]
theorem vp_V_map {n j : Nat} {f : Nat → Value} (h : j < n) : vp_V ((List.range n).map f) j = f j := by
  simp [vp_V, h]
theorem fits_kind {t : FieldType} {v : Value} (h : match t, v with
  | .int, .int _ => True
  | .long, .long _ => True
  | .object _, .null => True
  | .object _, .ref _ => True
  | .array _, .null => True
  | .array _, .ref _ => True
  | _, _ => False) : narrow t v = v ∧ fits t v = true := by
  cases t <;> cases v <;> first | exact ⟨rfl, rfl⟩ | exact absurd h id
/-- a store into a field -/
def sfv (h : AH) (a k : Nat) (v : AV) : AH := match v with
  | .inl x => sI h a k x
  | .inr (.inl x) => sL h a k x
  | .inr (.inr (.inr (.inl x))) => sR h a k x
  | _ => h
def kind3 (v : AV) : Nat := match v with
  | .inl _ => 0
  | .inr (.inl _) => 1
  | .inr (.inr (.inr (.inl _))) => 2
  | _ => 9
theorem sfv_n (h : AH) (a k : Nat) (v : AV) : zN (sfv h a k v) = zN h ∧ (∀ b, zK (sfv h a k v) b = zK h b) := by
  rcases v with x | x | x | x | x <;> exact ⟨rfl, fun _ => rfl⟩
theorem sfv_o (g : Gp) (h : AH) (a k : Nat) (v : AV) (b : Nat) (hb : b ≠ a) : ent g (sfv h a k v) b = ent g h b := by
  have e : ∀ {α : Type} (f : Nat → Nat → α) (x : α), up2 f a k x b = f b := fun f x => up1_n _ _ hb
  rcases v with x | x | x | x | x
  · exact ent_congr rfl (e _ _) rfl rfl rfl
  · exact ent_congr rfl rfl (e _ _) rfl rfl
  · exact ent_congr rfl rfl rfl rfl rfl
  · exact ent_congr rfl rfl rfl rfl (e _ _)
  · exact ent_congr rfl rfl rfl rfl rfl
theorem sfv_fv {g : Gp} {h : AH} {a c k t j : Nat} {v : AV} (ht : ftc (cty c k) = t) (h3 : kind3 v = t) (h9 : t < 3) : updV (fv g h c a) k (tv g v) j = fv g (sfv h a k v) c a j := by
  subst h3
  by_cases hj : j = k
  · subst hj
    rw [fv_fvv (h := sfv h a j v) ht h9]
    simp only [updV, if_true]
    rcases v with x | x | x | x | x
    · simp [fvv, kind3, sfv, zI, sI, up2, up1]
    · simp [fvv, kind3, sfv, zL, sL, up2, up1]
    · exact absurd h9 (by simp [kind3])
    · simp [fvv, kind3, sfv, zR, sR, up2, up1]
    · exact absurd h9 (by simp [kind3])
  · simp only [updV, if_neg hj]
    unfold fv
    rcases v with x | x | x | x | x <;> simp [sfv, zI, zL, zR, sI, sL, sR, up2, up1, hj]
