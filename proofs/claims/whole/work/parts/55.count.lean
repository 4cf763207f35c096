/-! pairs, counted once or twice -/
def sm (g : Nat → Nat) : Nat → Nat
  | 0 => 0
  | n + 1 => sm g n + g n
theorem sm_s {g : Nat → Nat} {n : Nat} : sm g (n + 1) = sm g n + g n := rfl
theorem sm_add {g h : Nat → Nat} : ∀ n, sm (fun i => g i + h i) n = sm g n + sm h n
  | 0 => rfl
  | n + 1 => by simp only [sm_s, sm_add n]; omega
theorem sm_cg {g h : Nat → Nat} : ∀ n, (∀ i, i < n → g i = h i) → sm g n = sm h n
  | 0, _ => rfl
  | n + 1, q => by simp only [sm_s, sm_cg n (fun i hi => q i (by omega)), q n (by omega)]
theorem sm_z {g : Nat → Nat} : ∀ n, (∀ i, i < n → g i = 0) → sm g n = 0
  | 0, _ => rfl
  | n + 1, q => by simp only [sm_s, sm_z n (fun i hi => q i (by omega)), q n (by omega)]
theorem sm_one {g : Nat → Nat} {k : Nat} : ∀ n, k < n → (∀ i, i < n → i ≠ k → g i = 0) → sm g n = g k
  | 0, h, _ => absurd h (by omega)
  | n + 1, h, q => by
    rw [sm_s]
    by_cases e : n = k
    · subst e
      rw [sm_z n (fun i hi => q i (by omega) (by omega)), Nat.zero_add]
    · rw [sm_one n (by omega) (fun i hi => q i (by omega)), q n (by omega) e, Nat.add_zero]
theorem cnt_sm {p : Nat → Bool} : ∀ n, cnt p n = sm (fun i => if p i then 1 else 0) n
  | 0 => rfl
  | n + 1 => by rw [cnt_s, sm_s, cnt_sm n]
theorem SS_dbl {e : Nat → Nat → Nat} : ∀ n, (∀ i j, i < n → j < n → e i j = e j i) → (∀ i, i < n → e i i = 0) → sm (fun i => sm (e i) n) n = 2 * sm (fun i => sm (fun j => if i < j then e i j else 0) n) n
  | 0, _, _ => rfl
  | n + 1, h1, h2 => by
    have ih := SS_dbl n (fun i j a b => h1 i j (by omega) (by omega)) (fun i a => h2 i (by omega))
    simp only [sm_s, sm_add]
    rw [ih, sm_cg (g := e n) (h := fun i => e i n) n (fun i hi => h1 n i (by omega) (by omega)), h2 n (by omega), sm_z (g := fun j => if n < j then e n j else 0) n (fun i hi => if_neg (by omega)), if_neg (Nat.lt_irrefl n), sm_cg (g := fun i => if i < n then e i n else 0) (h := fun i => e i n) n (fun i hi => if_pos hi)]
    omega
theorem m1_nI {j : Nat} (h : j < 1000) : ((-1 : Int32) = nI j) = False := eq_false (fun e => by
  have := congrArg Int32.toInt e
  rw [nI_toInt (by omega)] at this
  have h2 : (-1 : Int32).toInt = -1 := by decide
  omega)
theorem m1_leN {j : Nat} (h : j < 1000) : ((-1 : Int32) ≤ nI j) = True := eq_true (by
  rw [Int32.le_iff_toInt_le, nI_toInt (by omega)]
  have h2 : (-1 : Int32).toInt = -1 := by decide
  omega)
theorem mates2 {x : Nat → Int32} {k : Nat} (hk : k < 1000) (h : ∀ i, i < k → x i = -1 ∨ ∃ j, j < k ∧ j ≠ i ∧ x i = nI j ∧ x j = nI i) : cnt (fun i => decide (¬ x i = -1)) k = 2 * cnt (fun i => decide (¬ x i ≤ nI i)) k := by
  rw [cnt_sm, cnt_sm]
  have A : sm (fun i => if decide (¬ x i = -1) = true then 1 else 0) k = sm (fun i => sm (fun j => if x i = nI j then 1 else 0) k) k := sm_cg k (fun i hi => by
    rcases h i hi with q | ⟨j, q1, q2, q3, q4⟩
    · rw [sm_z k (fun j hj => by rw [q]; simp only [m1_nI (show j < 1000 by omega), if_false])]
      simp [q]
    · rw [sm_one (k := j) k q1 (fun t ht hne => by rw [q3, if_neg (by rw [n_eq (by omega) (by omega)]; omega)])]
      have : ¬ x i = -1 := by rw [q3]; intro e; exact (m1_nI (show j < 1000 by omega)).mp e.symm
      rw [decide_eq_true this, q3, if_pos rfl, if_pos rfl])
  have B : sm (fun i => if decide (¬ x i ≤ nI i) = true then 1 else 0) k = sm (fun i => sm (fun j => if i < j then (if x i = nI j then 1 else 0) else 0) k) k := sm_cg k (fun i hi => by
    rcases h i hi with q | ⟨j, q1, q2, q3, q4⟩
    · rw [sm_z k (fun j hj => by rw [q]; simp only [m1_nI (show j < 1000 by omega), if_false, ite_self])]
      simp [q, m1_leN (show i < 1000 by omega)]
    · rw [sm_one (k := j) k q1 (fun t ht hne => by rw [q3, if_neg (show ¬ nI j = nI t by rw [n_eq (by omega) (by omega)]; omega), ite_self])]
      rw [q3, if_pos rfl]
      by_cases w : i < j
      · rw [if_pos w, decide_eq_true (by rw [n_le (by omega) (by omega)]; omega), if_pos rfl]
      · rw [if_neg w, decide_eq_false (by rw [n_le (by omega) (by omega)]; omega), if_neg (by decide)])
  have T := SS_dbl (e := fun i j => if x i = nI j then 1 else 0) k ?_ ?_
  · rw [A, T, B]
  · intro i j hi hj
    have one : ∀ i j, i < k → j < k → x i = nI j → x j = nI i := by
      intro i j hi hj e
      rcases h i hi with q | ⟨t, q1, q2, q3, q4⟩
      · rw [q] at e; exact absurd e (fun e => (m1_nI (show j < 1000 by omega)).mp e)
      · rw [q3, n_eq (by omega) (by omega)] at e
        subst e; exact q4
    by_cases e : x i = nI j
    · simp [e, one i j hi hj e]
    · have : ¬ x j = nI i := fun e2 => e (one j i hj hi e2)
      simp [e, this]
  · intro i hi
    rcases h i hi with q | ⟨t, q1, q2, q3, q4⟩
    · rw [q, if_neg (fun e => (m1_nI (show i < 1000 by omega)).mp e)]
    · rw [q3, if_neg (by rw [n_eq (by omega) (by omega)]; exact q2)]
theorem half6 {c : Nat} (h : c ≤ 6) : nI c / nI 2 = nI (c / 2) := by
  have k : ∀ c : Fin 7, nI c.1 / nI 2 = nI (c.1 / 2) := by decide
  exact k ⟨c, by omega⟩
section WP
variable {n : Nat}
theorem r_pairs {k : Nat} {m : Mm} (hn : 2000 ≤ n) (hk : k ≤ 6) (h6 : m 108 6 = nI k) : fX12_pairs n m = some (nI (cnt (fun i => decide (¬ m 108 (15 + 3 * i) ≤ nI i)) k)) := by
  unfold fX12_pairs
  have L := loopInv (fun q i (s : Int32) => fX12_pairs_4L n q s (nI i) m) k (fun i s => s = nI (cnt (fun i => decide (¬ m 108 (15 + 3 * i) ≤ nI i)) i)) (fun r => r = nI (cnt (fun i => decide (¬ m 108 (15 + 3 * i) ≤ nI i)) k))
    (fun q s h => ⟨s, by simp (disch := omega) only [ltE, bnE, bn2E, gdE, nc, nI_add, n_mul, n_sub, ib_nI, up_hit, up_miss, n_le, n_lt, n_eq, n_eq0, n_lt0, n_0le, n_0lt, n_le0, zb_0, zb_1, if_pos, if_neg, ↓reduceIte, Nat.reduceAdd, Nat.reduceMul, Nat.reduceSub, fX12_pairs_31, fX12_pairs_4, fX12_pairs_4L, h6, Nat.le_refl], h⟩) ?_ n 0 (nI 0) (by omega) (by omega) rfl
  · obtain ⟨r, e, h⟩ := L
    rw [h] at e; exact e
  · intro q i s hi h
    refine Or.inr ⟨s + (if m 108 (15 + 3 * i) ≤ nI i then nI 0 else nI 1), ?_, ?_⟩
    · by_cases q : m 108 (15 + 3 * i) ≤ nI i
      · simp (disch := omega) only [ltE, bnE, bn2E, gdE, nc, nI_add, n_mul, n_sub, ib_nI, up_hit, up_miss, n_le, n_lt, n_eq, n_eq0, n_lt0, n_0le, n_0lt, n_le0, zb_0, zb_1, if_pos, if_neg, ↓reduceIte, Nat.reduceAdd, Nat.reduceMul, Nat.reduceSub, fX12_pairs_31, fX12_pairs_4, fX12_pairs_4L, h6, r_coil3, show ¬ k ≤ i from by omega, q]
      · simp (disch := omega) only [ltE, bnE, bn2E, gdE, nc, nI_add, n_mul, n_sub, ib_nI, up_hit, up_miss, n_le, n_lt, n_eq, n_eq0, n_lt0, n_0le, n_0lt, n_le0, zb_0, zb_1, if_pos, if_neg, ↓reduceIte, Nat.reduceAdd, Nat.reduceMul, Nat.reduceSub, fX12_pairs_31, fX12_pairs_4, fX12_pairs_4L, h6, r_coil3, show ¬ k ≤ i from by omega, q]
    · rw [h, cnt_s]
      by_cases q : m 108 (15 + 3 * i) ≤ nI i
      · simp [q, nI_add]
      · simp [q, nI_add]
theorem c_pairs {k o : Nat} {f : Mm} {x : Nat → Int32} (hn : 2000 ≤ n) (hk : k ≤ 6) (h3 : f o 3 = nI k) (hx : ∀ i, i < k → (f (o + 3) i = NONEi ↔ x i = -1)) : fX1_pairs n o f = some (nI (cnt (fun i => decide (¬ x i = -1)) k / 2)) := by
  unfold fX1_pairs
  have L := loopInv (fun q i (s : Int32) => fX1_pairs_4L n o q s (nI i) f) k (fun i s => s = nI (cnt (fun i => decide (¬ x i = -1)) i)) (fun r => r = nI (cnt (fun i => decide (¬ x i = -1)) k / 2))
    (fun q s h => ⟨nI (cnt (fun i => decide (¬ x i = -1)) k / 2), by rw [h]; simp (disch := omega) only [ltE, bnE, bn2E, gdE, nc, nI_add, n_mul, n_sub, ib_nI, up_hit, up_miss, n_le, n_lt, n_eq, n_eq0, n_lt0, n_0le, n_0lt, n_le0, zb_0, zb_1, if_pos, if_neg, ↓reduceIte, Nat.reduceAdd, Nat.reduceMul, Nat.reduceSub, fX1_pairs_26, fX1_pairs_4, fX1_pairs_4L, h3, Nat.le_refl, half6 (Nat.le_trans (cnt_le k) hk)], rfl⟩) ?_ n 0 (nI 0) (by omega) (by omega) rfl
  · obtain ⟨r, e, h⟩ := L
    rw [h] at e; exact e
  · intro q i s hi h
    refine Or.inr ⟨s + (if f (o + 3) i = NONEi then nI 0 else nI 1), ?_, ?_⟩
    · by_cases q : f (o + 3) i = NONEi
      · simp (disch := omega) only [ltE, bnE, bn2E, gdE, nc, nI_add, n_mul, n_sub, ib_nI, up_hit, up_miss, n_le, n_lt, n_eq, n_eq0, n_lt0, n_0le, n_0lt, n_le0, zb_0, zb_1, if_pos, if_neg, ↓reduceIte, Nat.reduceAdd, Nat.reduceMul, Nat.reduceSub, fX1_pairs_26, fX1_pairs_4, fX1_pairs_4L, h3, show ¬ k ≤ i from by omega, q, none_none]
        rw [h]; simp (disch := omega) only [ltE, bnE, bn2E, gdE, nc, nI_add, n_mul, n_sub, ib_nI, up_hit, up_miss, n_le, n_lt, n_eq, n_eq0, n_lt0, n_0le, n_0lt, n_le0, zb_0, zb_1, if_pos, if_neg, ↓reduceIte, Nat.reduceAdd, Nat.reduceMul, Nat.reduceSub, Nat.add_zero]
      · have q' : ¬ f (o + 3) i = -1000000005 := q
        simp (disch := omega) only [ltE, bnE, bn2E, gdE, nc, nI_add, n_mul, n_sub, ib_nI, up_hit, up_miss, n_le, n_lt, n_eq, n_eq0, n_lt0, n_0le, n_0lt, n_le0, zb_0, zb_1, if_pos, if_neg, ↓reduceIte, Nat.reduceAdd, Nat.reduceMul, Nat.reduceSub, fX1_pairs_26, fX1_pairs_4, fX1_pairs_4L, h3, show ¬ k ≤ i from by omega, q, q']
    · rw [h, cnt_s]
      by_cases q : f (o + 3) i = NONEi
      · have := (hx i hi).mp q
        simp [q, this, nI_add]
      · have : ¬ x i = -1 := fun e => q ((hx i hi).mpr e)
        simp [q, this, nI_add]
theorem nI_noneE {j : Nat} (h : j < 1000) : ¬ nI j = NONEi := fun e => by
  have := congrArg Int32.toInt e
  rw [nI_toInt (by omega)] at this
  have h2 : NONEi.toInt = -1000000005 := by decide
  omega
theorem s_count (hn : 2000 ≤ n) : SP_count Inv n := by
  intro N f m a1 hI
  have hI' := hI
  obtain ⟨hN, ⟨h0, nC, nw, ns, nk, ny, no, nt, h1, h2, h3, h4, h5, h6, h7⟩, hO⟩ := hI
  obtain ⟨g1, g2, g3, g4, g5, g6⟩ := h1
  have g2 : f 2 3 = nI nC := g2
  have p1 := r_pairs (n := n) (m := m) hn g1 g3
  have p2 := c_pairs (n := n) (o := 2) (f := f) (x := fun i => m 108 (15 + 3 * i)) hn g1 g2 (fun i hi => by
    rcases g6 i hi with ⟨q1, q2⟩ | ⟨j, q1, q2, q3, q4, q5⟩
    · exact ⟨fun _ => q2, fun _ => q1⟩
    · exact ⟨fun e => absurd (q3.symm.trans e) (nI_noneE (by omega)), fun e => absurd (q4.symm.trans e).symm (fun e => (m1_nI (show j < 1000 by omega)).mp e)⟩)
  rw [mates2 (x := fun i => m 108 (15 + 3 * i)) (by omega) (fun i hi => by
    rcases g6 i hi with ⟨q1, q2⟩ | ⟨j, q1, q2, q3, q4, q5⟩
    · exact Or.inl q2
    · exact Or.inr ⟨j, q1, q2, q4, q5⟩), Nat.mul_div_cancel_left _ (by omega : 0 < 2)] at p2
  have c1 : f 2 3 = m 108 6 := g2.trans g3.symm
  have c2 : f 6 4 = m 108 7 := h2.2.1.trans h2.2.2.1.symm
  have c3 : f 10 4 = m 108 8 := h3.2.1.trans h3.2.2.1.symm
  have c4 : f 1 10 = m 108 9 := h7.2.1.trans h7.2.2.1.symm
  have c5 : f 1 13 = m 108 10 := h4.2.1.trans h4.2.2.1.symm
  have c6 : f 18 4 = m 108 11 := h5.2.1.trans h5.2.2.1.symm
  have c7 : f 22 2 = m 108 12 := h6.2.1.trans h6.2.2.1.symm
  have c8 : f 1 1 = m 108 4 := h0.2.1
  have c9 : f 1 0 = m 108 1 := h0.1
  have c12 : f 1 5 = m 108 0 := h0.2.2.2.2.2.1
  obtain ⟨k1, k2, k3, k4, k5⟩ := hO.2.2.2.1
  obtain ⟨l1, l2, l3, l4, l5⟩ := hO.2.2.2.2.1
  have c10 : f 0 7 = m 107 33 := k3.trans k4.symm
  have c11 : f 100 1 = m 107 5 := l3.trans l4.symm
  unfold fX11_count fX12_count
  by_cases q0 : a1 = nI 0
  · rw [if_pos q0, if_pos q0, nc (by omega), c1]; exact ⟨_, rfl, rfl, hI'⟩
  rw [if_neg q0, if_neg q0]
  by_cases q1 : a1 = nI 1
  · rw [if_pos q1, if_pos q1, nc (by omega), c2]; exact ⟨_, rfl, rfl, hI'⟩
  rw [if_neg q1, if_neg q1]
  by_cases q2 : a1 = nI 2
  · rw [if_pos q2, if_pos q2, nc (by omega), c3]; exact ⟨_, rfl, rfl, hI'⟩
  rw [if_neg q2, if_neg q2]
  by_cases q3 : a1 = nI 3
  · rw [if_pos q3, if_pos q3, nc (by omega), c4]; exact ⟨_, rfl, rfl, hI'⟩
  rw [if_neg q3, if_neg q3]
  by_cases q4 : a1 = nI 4
  · rw [if_pos q4, if_pos q4, nc (by omega), c5]; exact ⟨_, rfl, rfl, hI'⟩
  rw [if_neg q4, if_neg q4]
  by_cases q5 : a1 = nI 5
  · rw [if_pos q5, if_pos q5, nc (by omega), c6]; exact ⟨_, rfl, rfl, hI'⟩
  rw [if_neg q5, if_neg q5]
  by_cases q6 : a1 = nI 6
  · rw [if_pos q6, if_pos q6, nc (by omega), c7]; exact ⟨_, rfl, rfl, hI'⟩
  rw [if_neg q6, if_neg q6]
  by_cases q7 : a1 = nI 7
  · rw [if_pos q7, if_pos q7, p1, p2]; exact ⟨_, rfl, rfl, hI'⟩
  rw [if_neg q7, if_neg q7]
  by_cases q8 : a1 = nI 8
  · rw [if_pos q8, if_pos q8, nc (by omega), c8]; exact ⟨_, rfl, rfl, hI'⟩
  rw [if_neg q8, if_neg q8]
  by_cases q9 : a1 = nI 9
  · rw [if_pos q9, if_pos q9, nc (by omega), c9]; exact ⟨_, rfl, rfl, hI'⟩
  rw [if_neg q9, if_neg q9]
  by_cases q10 : a1 = nI 10
  · rw [if_pos q10, if_pos q10, c10]; exact ⟨_, rfl, rfl, hI'⟩
  rw [if_neg q10, if_neg q10]
  by_cases q11 : a1 = nI 11
  · rw [if_pos q11, if_pos q11, c11]; exact ⟨_, rfl, rfl, hI'⟩
  rw [if_neg q11, if_neg q11]
  by_cases q12 : a1 = nI 12
  · rw [if_pos q12, if_pos q12, nc (by omega), c12]; exact ⟨_, rfl, rfl, hI'⟩
  rw [if_neg q12, if_neg q12]
  exact ⟨_, rfl, rfl, hI'⟩
end WP
