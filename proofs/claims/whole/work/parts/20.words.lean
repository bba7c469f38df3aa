/-! ===== words as rows of sounds ===== -/
def wpk : List Nat → Nat
  | [] => 0
  | s :: r => s + 16 * wpk r
def Wok (l : List Nat) : Prop := l.length ≤ 10 ∧ ∀ s ∈ l, s < 16
/-- a word as the class keeps it -/
def eC (l : List Nat) : Int64 := lN (l.length * 1099511627776 + wpk l)
theorem wp_lt : ∀ {l : List Nat}, (∀ s ∈ l, s < 16) → wpk l < 16 ^ l.length
  | [], _ => by simp [wpk]
  | s :: r, h => by
    have h1 := wp_lt (l := r) (fun x hx => h x (List.mem_cons_of_mem _ hx))
    have h2 := h s List.mem_cons_self
    simp only [wpk, List.length_cons, Nat.pow_succ]
    omega
theorem p16 {n : Nat} (h : n ≤ 10) : 16 ^ n ≤ 1099511627776 := by
  have : (16 : Nat) ^ n ≤ 16 ^ 10 := Nat.pow_le_pow_right (by omega) h
  exact Nat.le_trans this (by decide)
theorem wp_lt40 {l : List Nat} (h : Wok l) : wpk l < 1099511627776 := Nat.lt_of_lt_of_le (wp_lt h.2) (p16 h.1)
theorem wp_at : ∀ {l : List Nat} (p : Nat), (∀ s ∈ l, s < 16) → wpk l / 16 ^ p % 16 = l.getD p 0
  | [], p, _ => by simp [wpk]
  | s :: r, 0, h => by
    have h2 := h s List.mem_cons_self
    simp [wpk]
    omega
  | s :: r, p + 1, h => by
    have h2 := h s List.mem_cons_self
    have h1 := wp_at (l := r) p (fun x hx => h x (List.mem_cons_of_mem _ hx))
    have e : wpk (s :: r) / 16 ^ (p + 1) = wpk r / 16 ^ p := by
      rw [Nat.pow_succ, Nat.mul_comm, ← Nat.div_div_eq_div_mul]
      congr 1
      simp only [wpk]
      omega
    rw [e, h1]
    rfl
theorem wp_snoc : ∀ (l : List Nat) (s : Nat), wpk (l ++ [s]) = wpk l + s * 16 ^ l.length
  | [], s => by simp [wpk]
  | a :: r, s => by
    simp only [List.cons_append, wpk, wp_snoc r s, List.length_cons, Nat.pow_succ]
    rw [Nat.mul_add, Nat.add_assoc]
    congr 2
    rw [← Nat.mul_assoc, Nat.mul_comm 16 s, Nat.mul_assoc, Nat.mul_comm 16]
theorem c_size {l : List Nat} (h : Wok l) : (((eC l).toUInt64 >>> ((40 : Int32).toInt64.toUInt64 &&& Int64.toUInt64 63)).toInt64).toInt32 = nI l.length := by
  have h1 := wp_lt40 h
  have h2 := h.1
  unfold eC
  rw [g_ushr (a := l.length * 1099511627776 + wpk l) (k := 40) (p := 1099511627776) (by decide) (by omega) (by decide) (by omega), lN_i]
  congr 1
  omega
theorem Wok.at {l : List Nat} (h : Wok l) (p : Nat) : l.getD p 0 < 16 := by
  by_cases hp : p < l.length
  · rw [List.getD_eq_getElem?_getD, List.getElem?_eq_getElem hp]; exact h.2 _ (List.getElem_mem hp)
  · rw [List.getD_eq_getElem?_getD, List.getElem?_eq_none (by omega)]; decide
theorem c_at {l : List Nat} {p : Nat} (h : Wok l) (hp : p < l.length) : (((eC l).toUInt64 >>> (((4 : Int32) * nI p).toInt64.toUInt64 &&& Int64.toUInt64 63)).toInt64).toInt32 &&& 15 = nI (l.getD p 0) := by
  have h1 := wp_lt40 h
  have h2 := h.1
  have e4 : (4 : Int32) * nI p = nI (4 * p) := by rw [show (4 : Int32) = nI 4 from rfl, pk_mul]
  unfold eC
  rw [e4, g_ushr (a := l.length * 1099511627776 + wpk l) (k := 4 * p) (p := 16 ^ p) (wb_cu _ (by omega)) (by omega) (by rw [Nat.pow_mul]) (by omega), lN_i, show (15 : Int32) = nI (2 ^ 4 - 1) from rfl, fa_mask]
  congr 1
  rw [← wp_at p h.2]
  have e : (1099511627776 : Nat) = 16 ^ p * 16 ^ (10 - p) := by rw [← Nat.pow_add, show p + (10 - p) = 10 by omega]
  have e2 : l.length * 1099511627776 + wpk l = wpk l + 16 ^ p * (16 ^ (10 - p) * l.length) := by rw [e]; rw [Nat.mul_comm l.length, Nat.mul_assoc, Nat.add_comm]
  rw [e2, Nat.add_mul_div_left _ _ (Nat.pos_of_ne_zero (by simp)), show 10 - p = (9 - p) + 1 by omega, Nat.pow_succ, Nat.mul_comm (16 ^ (9 - p)) 16, Nat.mul_assoc]
  omega
theorem c_plus {l : List Nat} {s : Nat} (h : Wok l) (hl : l.length < 10) (hs : s < 16) : (eC l + 1099511627776) ||| ((nI s).toInt64 <<< (((4 : Int32) * nI l.length).toInt64 &&& 63)) = eC (l ++ [s]) := by
  have h1 := wp_lt h.2
  have h2 := wp_lt40 h
  have e4 : (4 : Int32) * nI l.length = nI (4 * l.length) := by rw [show (4 : Int32) = nI 4 from rfl, pk_mul]
  have es : (nI s).toInt64 = lN s := nI_l (by omega)
  have e16 : 16 ^ l.length = 2 ^ (4 * l.length) := by rw [Nat.pow_mul]
  rw [e4, es, wb_c _ (by omega), show (lN (4 * l.length)) = ((nI (4 * l.length)).toInt64 &&& 63) from (wb_c _ (by omega)).symm, wb_shl s (by omega)]
  unfold eC
  rw [show (1099511627776 : Int64) = lN 1099511627776 from rfl, lN_add]
  have hp9 : 16 ^ (l.length + 1) ≤ 1099511627776 := p16 (by omega)
  rw [Nat.pow_succ, e16] at hp9
  rw [e16] at h1
  have hss : s * 2 ^ (4 * l.length) + wpk l < 1099511627776 := by
    have : s * 2 ^ (4 * l.length) ≤ 15 * 2 ^ (4 * l.length) := Nat.mul_le_mul_right _ (by omega)
    omega
  rw [wb_or (by omega) (by omega)]
  congr 1
  rw [wp_snoc, List.length_append, List.length_cons, List.length_nil, e16]
  have a1 : l.length * 1099511627776 + wpk l + 1099511627776 = 2 ^ 40 * (l.length + 1) + wpk l := by omega
  rw [a1, Nat.two_pow_add_eq_or_of_lt (by omega), Nat.or_assoc, Nat.or_comm (wpk l), Nat.mul_comm s, ← Nat.two_pow_add_eq_or_of_lt h1, ← Nat.two_pow_add_eq_or_of_lt (by rw [Nat.mul_comm]; omega)]
  omega
theorem e_size {g : Gp} {l : List Nat} {h : AH} {Q : PQ} (hw : Wok l) (hq : Q (.inl (some (vI (nI l.length)))) h) : Ev g mX8_size [vL (eC l)] h Q := by
  refine nX8_size ?_
  refine rX8_size_0 ?_
  simp only [bX8_size_0, run, Nat.reduceAdd, lg, st1, st2, lkill, lset, fvv, sfv, kind3, cat1, retI, retA, List.length_cons, List.length_nil, true_and, and_true, or_true, true_or, qX8_size]
  rw [c_size hw]
  exact hq
theorem e_at {g : Gp} {l : List Nat} {p : Nat} {h : AH} {Q : PQ} (hw : Wok l) (hp : p < l.length) (hq : Q (.inl (some (vI (nI (l.getD p 0))))) h) : Ev g mX8_at [vL (eC l), vI (nI p)] h Q := by
  refine nX8_at ?_
  refine rX8_at_0 ?_
  simp only [bX8_at_0, run, Nat.reduceAdd, lg, st1, st2, lkill, lset, fvv, sfv, kind3, cat1, retI, retA, List.length_cons, List.length_nil, true_and, and_true, or_true, true_or, qX8_at]
  rw [c_at hw hp]
  exact hq
theorem e_plus {g : Gp} {l : List Nat} {s : Nat} {h : AH} {Q : PQ} (hw : Wok l) (hl : l.length < 10) (hs : s < 16) (hq : Q (.inl (some (vL (eC (l ++ [s]))))) h) : Ev g mX8_plus [vL (eC l), vI (nI s)] h Q := by
  refine nX8_plus ?_
  refine rX8_plus_0 ?_
  simp only [bX8_plus_0, run, Nat.reduceAdd, lg, st1, st2, lkill, lset, fvv, sfv, kind3, cat1, retI, retA, List.length_cons, List.length_nil, true_and, and_true, or_true, true_or, qX8_plus]
  refine sX8_plus_9 (e_size hw ?_)
  simp only [cont, Option.toList, List.cons_append, List.nil_append]
  refine rX8_plus_12 ?_
  simp only [bX8_plus_12, run, Nat.reduceAdd, lg, st1, st2, lkill, lset, fvv, sfv, kind3, cat1, retI, retA, List.length_cons, List.length_nil, true_and, and_true, or_true, true_or, qX8_plus]
  rw [c_plus hw hl hs]
  exact hq
theorem wpk_inj : ∀ {l m : List Nat}, l.length = m.length → (∀ s ∈ l, s < 16) → (∀ s ∈ m, s < 16) → wpk l = wpk m → l = m
  | [], [], _, _, _, _ => rfl
  | [], _ :: _, h, _, _, _ => absurd h (by simp)
  | _ :: _, [], h, _, _, _ => absurd h (by simp)
  | a :: l, b :: m, h, h1, h2, h3 => by
    have a1 := h1 a List.mem_cons_self
    have b1 := h2 b List.mem_cons_self
    simp only [wpk] at h3
    have e1 : a = b := by omega
    have e2 := wpk_inj (l := l) (m := m) (by simpa using h) (fun s hs => h1 s (List.mem_cons_of_mem _ hs)) (fun s hs => h2 s (List.mem_cons_of_mem _ hs)) (by omega)
    rw [e1, e2]
theorem eC_inj {l m : List Nat} (hl : Wok l) (hm : Wok m) : eC l = eC m ↔ l = m := by
  refine ⟨fun e => ?_, fun e => by rw [e]⟩
  have a1 := wp_lt40 hl
  have a2 := wp_lt40 hm
  have b1 := hl.1
  have b2 := hm.1
  have e1 : l.length * 1099511627776 + wpk l = m.length * 1099511627776 + wpk m := (pk_lEQ (by omega) (by omega)).mp e
  exact wpk_inj (by omega) hl.2 hm.2 (by omega)
theorem eC_nil : eC [] = 0 := by decide
theorem wok_nil : Wok [] := ⟨by simp, by simp⟩
theorem eC_0 {l : List Nat} (hl : Wok l) : eC l = 0 ↔ l = [] := by rw [← eC_nil]; exact eC_inj hl wok_nil
