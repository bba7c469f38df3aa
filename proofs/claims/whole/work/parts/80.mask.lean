/-! ===== words that are none; sums ===== -/
def emP (gv : Nat → List Nat) (m : Nat) (c : Cell3) : Prop := (gv m = [] → c = ([], 0, 0)) ∧ (¬ gv m = [] → ¬ c.1 = [])
theorem gov_nil {f : Nat → Nat} {w : Lw} : gov f w [] = [] := rfl
theorem gov_ne {f : Nat → Nat} {w : Lw} {l : List Nat} (h : ¬ l = []) : ¬ gov f w l = [] := by
  unfold gov
  split
  · exact h
  · assumption
theorem emP.inh {D : HD} {gv : Nat → List Nat} {T : Nat → Cell3} {l m : Nat} (hD : hdV D) (hl : l < D.1) (hT : ∀ k, k < l → emP gv m (T k)) : emP gv m (inh D gv T l m) := by
  unfold _root_.Jvm.Pilot.CTonguerootFamilyLaw_law_r5644_37688e.inh
  split
  · exact ⟨fun e => by rw [e], fun e => e⟩
  · have z := hT _ (hD.2.2.1 l (by omega) hl)
    exact ⟨fun e => by rw [z.1 e], fun e => z.2 e⟩
theorem emP.brw {ln : List Ln} {T : Nat → Cell3} {gv : Nat → List Nat} {l m t : Nat} (hT : ∀ k, k < l → emP gv m (T k)) {c : Cell3} (hc : emP gv m c) (hf : ∀ i, i < ln.length → (ln.getD i w0).2.1 < (ln.getD i w0).2.2.1) : ∀ n, n ≤ ln.length → emP gv m (brw ln T l m t n c)
  | 0, _ => hc
  | n + 1, hn => by
    unfold _root_.Jvm.Pilot.CTonguerootFamilyLaw_law_r5644_37688e.brw
    split
    · next hx =>
      have := hf n (by omega)
      have z := hT (ln.getD n w0).2.1 (by omega)
      refine ⟨fun e => absurd ?_ hx.2, fun e => z.2 e⟩
      rw [z.1 e]
    · exact emP.brw hT hc hf n (by omega)
theorem emP.lst {gv : Nat → List Nat} {m : Nat} {f : Nat → Nat} {ws : List Lw} {t : Nat} {c : Cell3} (hc : emP gv m c) : emP gv m (lst f ws t c) := by
  unfold _root_.Jvm.Pilot.CTonguerootFamilyLaw_law_r5644_37688e.lst
  split
  · split
    · exact hc
    · next e =>
      refine ⟨fun q => absurd ?_ e, fun q => gov_ne (hc.2 q)⟩
      rw [hc.1 q]
      exact gov_nil
  · exact hc
theorem emP.tel {D : HD} {f : Nat → Nat} {gv : Nat → List Nat} {T : Nat → Cell3} {l m : Nat} (hD : hdV D) (hl : l < D.1) (hT : ∀ k, k < l → emP gv m (T k)) : ∀ t, emP gv m (tel D f gv T l m t)
  | 0 => emP.inh hD hl hT
  | t + 1 => emP.lst (emP.brw hT (emP.tel hD hl hT t) (fun i hi => hD.2.2.2.2.2 i hi) _ (Nat.le_refl _))
theorem emP.tbl {D : HD} {f : Nat → Nat} {gv : Nat → List Nat} {m : Nat} (hD : hdV D) : ∀ n, n ≤ D.1 → ∀ l, l < n → emP gv m (tbl D f gv m n l)
  | 0, _, l, h => absurd h (Nat.not_lt_zero _)
  | n + 1, hn, l, h => by
    unfold _root_.Jvm.Pilot.CTonguerootFamilyLaw_law_r5644_37688e.tbl
    split
    · exact emP.tel hD (by omega) (fun k hk => emP.tbl hD n (by omega) k hk) 9
    · exact emP.tbl hD n (by omega) l (by omega)
theorem cel_em {D : HD} {f : Nat → Nat} {gv : Nat → List Nat} {m l : Nat} (hD : hdV D) (hl : l < D.1) : emP gv m (cel D f gv m l) := emP.tbl hD (l + 1) hl l (by omega)
theorem cel_0 {D : HD} {f : Nat → Nat} {gv : Nat → List Nat} {m l : Nat} (hD : hdV D) (hl : l < D.1) (h : (cel D f gv m l).1 = []) : (cel D f gv m l).2.1 = 0 ∧ (cel D f gv m l).2.2 = 0 := by
  have z := cel_em (f := f) (gv := gv) (m := m) hD hl
  by_cases e : gv m = []
  · rw [z.1 e]; exact ⟨rfl, rfl⟩
  · exact absurd h (z.2 e)
def sm (g : Nat → Nat) : Nat → Nat
  | 0 => 0
  | n + 1 => sm g n + g n
theorem sm_c {g k : Nat → Nat} : ∀ n, (∀ i, i < n → g i = k i) → sm g n = sm k n
  | 0, _ => rfl
  | n + 1, h => by rw [sm, sm, sm_c n fun i hi => h i (by omega), h n (by omega)]
theorem sm_a {g k : Nat → Nat} : ∀ n, sm (fun i => g i + k i) n = sm g n + sm k n
  | 0 => rfl
  | n + 1 => by rw [sm, sm, sm, sm_a n]; omega
theorem sm_le {g : Nat → Nat} {b : Nat} : ∀ n, (∀ i, i < n → g i ≤ b) → sm g n ≤ b * n
  | 0, _ => Nat.le_refl _
  | n + 1, h => by
    have h1 := sm_le n (g := g) (b := b) fun i hi => h i (by omega)
    have h2 := h n (by omega)
    rw [sm, Nat.mul_succ]
    omega
def bq (W : Nat → List Nat) (i j : Nat) : Nat := if ¬ W i = [] ∧ W i = W j then 1 else 0
theorem bq_c {W : Nat → List Nat} {i j : Nat} : bq W i j = bq W j i := by
  unfold bq
  by_cases e : W i = W j
  · rw [e]
  · rw [if_neg (fun q => e q.2), if_neg (fun q => e q.2.symm)]
theorem al2_sm {W : Nat → List Nat} {m : Nat} : ∀ k c, al2 W m k c = c + sm (fun k => bq W m (m + 1 + k)) k
  | 0, c => rfl
  | k + 1, c => by
    rw [al2, sm, al2_sm k c]
    unfold bq
    by_cases e : W m = W (m + 1 + k) ∧ ¬ W m = []
    · rw [if_pos e, if_pos ⟨e.2, e.1⟩]; omega
    · rw [if_neg e, if_neg (fun q => e ⟨q.2, q.1⟩)]; omega
theorem alk_sm {W : Nat → List Nat} : ∀ n, alk W n = sm (fun m => sm (fun k => bq W m (m + 1 + k)) (11 - m)) n
  | 0 => rfl
  | n + 1 => by rw [alk, al2_sm, sm, alk_sm n]
theorem sm_pairs {b : Nat → Nat → Nat} : ∀ M n, M ≤ n + 1 → sm (fun m => sm (fun k => b m (m + 1 + k)) (n + 1 - m)) M = sm (fun m => sm (fun k => b m (m + 1 + k)) (n - m)) M + sm (fun m => b m (n + 1)) M
  | 0, _, _ => rfl
  | M + 1, n, h => by
    rw [sm, sm, sm, sm_pairs M n (by omega), show n + 1 - M = n - M + 1 by omega, sm, show M + 1 + (n - M) = n + 1 by omega]
    omega
theorem sm_tri {b : Nat → Nat → Nat} (hb : ∀ i j, b i j = b j i) : ∀ n, sm (fun m => sm (fun k => b m (m + 1 + k)) (n - m)) (n + 1) = sm (fun m => sm (fun o => b m o) m) (n + 1)
  | 0 => rfl
  | n + 1 => by
    rw [sm, show n + 1 - (n + 1) = 0 by omega, sm, sm_pairs (n + 1) n (Nat.le_refl _), sm_tri hb n]
    rw [show sm (fun m => sm (fun o => b m o) m) (n + 1 + 1) = sm (fun m => sm (fun o => b m o) m) (n + 1) + sm (fun o => b (n + 1) o) (n + 1) from rfl]
    rw [sm_c (g := fun m => b m (n + 1)) (k := fun o => b (n + 1) o) (n + 1) fun i _ => hb i (n + 1)]
    omega
theorem alk_tri {W : Nat → List Nat} : alk W 12 = sm (fun m => sm (fun o => bq W m o) m) 12 := by
  rw [alk_sm]
  have z := sm_tri (b := bq W) (fun i j => bq_c) 11
  rw [show (11 + 1 : Nat) = 12 from rfl] at z
  exact z
