/-! sums over sets of offers -/
def sw (a : Nat → Int32) (w x k : Nat) : Nat := sm (fun i => if x.testBit i then ct a (331 + w + 2 * i) else 0) k
theorem sw_s {a : Nat → Int32} {w x k : Nat} : sw a w x (k + 1) = sw a w x k + (if x.testBit k then ct a (331 + w + 2 * k) else 0) := rfl
theorem shl8 : ∀ k, k < 9 → shlI (nI 1) (nI k) = nI (2 ^ k) ∧ 2 ^ k ≤ 256 ∧ 1 ≤ 2 ^ k := by decide
theorem bI1 {b : Bool} : (bI b = nI 1) = (b = true) := by cases b <;> simp <;> decide
theorem bI0 {b : Bool} : (bI b = 0) = (b = false) := by cases b <;> simp <;> decide
theorem sw_le {a : Nat → Int32} {w x M : Nat} : ∀ k, (∀ i, i < k → ct a (331 + w + 2 * i) ≤ M) → sw a w x k ≤ M * k
  | 0, _ => Nat.zero_le _
  | k + 1, h => by
    have := sw_le (x := x) k (fun i hi => h i (by omega))
    have h2 := h k (by omega)
    rw [sw_s, Nat.mul_succ]
    split <;> omega
theorem sw_sz {a : Nat → Int32} {f : Mm} {o no x : Nat} (h : cOf f o a no) : sw a 0 x no ≤ 72 := by
  obtain ⟨g1, g2, g3, g4, g5⟩ := h
  have := sw_le (a := a) (w := 0) (x := x) (M := 9) no (fun i hi => by obtain ⟨s, _, s2, _, s4⟩ := g4 i hi; rw [show 331 + 0 + 2 * i = 331 + 2 * i from by omega, ct_n s4 (by omega)]; omega)
  omega
theorem sw_pr {a : Nat → Int32} {f : Mm} {o no x : Nat} (h : cOf f o a no) : sw a 1 x no ≤ 7992 := by
  obtain ⟨g1, g2, g3, g4, g5⟩ := h
  have := sw_le (a := a) (w := 1) (x := x) (M := 999) no (fun i hi => by obtain ⟨s, s2, _, s4⟩ := g5 i hi; rw [show 331 + 1 + 2 * i = 332 + 2 * i from by omega, ct_n s4 (by omega)]; omega)
  omega
theorem of_at {a : Nat → Int32} {f : Mm} {o no w i : Nat} (h : cOf f o a no) (hw : w < 2) (hi : i < no) : a (331 + w + 2 * i) = nI (ct a (331 + w + 2 * i)) ∧ f (o + 22 + w) i = nI (ct a (331 + w + 2 * i)) ∧ ct a (331 + w + 2 * i) ≤ 999 := by
  obtain ⟨g1, g2, g3, g4, g5⟩ := h
  have : w = 0 ∨ w = 1 := by omega
  rcases this with rfl | rfl
  · obtain ⟨s, _, s2, s3, s4⟩ := g4 i hi
    rw [show 331 + 0 + 2 * i = 331 + 2 * i from by omega, ct_n s4 (by omega)]
    exact ⟨s4, s3, by omega⟩
  · obtain ⟨s, s2, s3, s4⟩ := g5 i hi
    rw [show 331 + 1 + 2 * i = 332 + 2 * i from by omega, ct_n s4 (by omega)]
    exact ⟨s4, s3, by omega⟩
section WB
variable {n : Nat}
theorem r_sumOf {no x w o : Nat} {f m : Mm} (hn : 2000 ≤ n) (h : cOf f o (m 108) no) (hx : x < 256) (hw : w < 2) : fX12_sumOf n (nI x) (nI w) m = some (nI (sw (m 108) w x no)) := by
  have hO := fun i hi => of_at (i := i) h hw hi
  obtain ⟨g1, g2, g3, g4, g5⟩ := h
  unfold fX12_sumOf
  have L := loopInv (fun q i (s : Int32) => fX12_sumOf_5L n q (nI x) (nI w) s (nI i) m) no (fun i s => s = nI (sw (m 108) w x i)) (fun r => r = nI (sw (m 108) w x no))
    (fun q s h => ⟨s, by simp (disch := omega) only [ltE, bnE, bn2E, gdE, nc, nI_add, n_mul, n_sub, ib_nI, up_hit, up_miss, n_le, n_lt, n_eq, n_eq0, n_lt0, n_0le, n_0lt, n_le0, zb_0, zb_1, if_pos, if_neg, ↓reduceIte, Nat.reduceAdd, Nat.reduceMul, Nat.reduceSub, fX12_sumOf_47, fX12_sumOf_5, fX12_sumOf_5L, g3, Nat.le_refl], h⟩) ?_ n 0 (nI 0) (by omega) (by omega) rfl
  · obtain ⟨r, e, h⟩ := L
    rw [h] at e; exact e
  · intro q i s hi h
    obtain ⟨o1, o2, o3⟩ := hO i hi
    have ki : ¬ no ≤ i := by omega
    have e : 331 + 2 * i + w = 331 + w + 2 * i := by omega
    rw [h]
    refine Or.inr ⟨nI (sw (m 108) w x (i + 1)), ?_, rfl⟩
    rw [sw_s]
    cases hb : x.testBit i
    · simp (disch := omega) only [ltE, bnE, bn2E, gdE, nc, nI_add, n_mul, n_sub, ib_nI, up_hit, up_miss, n_le, n_lt, n_eq, n_eq0, n_lt0, n_0le, n_0lt, n_le0, zb_0, zb_1, if_pos, if_neg, ↓reduceIte, Nat.reduceAdd, Nat.reduceMul, Nat.reduceSub, fX12_sumOf_47, fX12_sumOf_5, fX12_sumOf_5L, g3, ki, at_bit8 x hx i (by omega), hb, bI1, Nat.add_zero, Bool.false_eq_true]
    · simp (disch := omega) only [ltE, bnE, bn2E, gdE, nc, nI_add, n_mul, n_sub, ib_nI, up_hit, up_miss, n_le, n_lt, n_eq, n_eq0, n_lt0, n_0le, n_0lt, n_le0, zb_0, zb_1, if_pos, if_neg, ↓reduceIte, Nat.reduceAdd, Nat.reduceMul, Nat.reduceSub, fX12_sumOf_47, fX12_sumOf_5, fX12_sumOf_5L, g3, ki, at_bit8 x hx i (by omega), hb, bI1, e, o1]
theorem c_sumOf {no x w o : Nat} {f : Mm} {a : Nat → Int32} (hn : 2000 ≤ n) (h : cOf f o a no) (hx : x < 2 ^ no) (hw : w < 2) : fX11_sumOf n (o + 22 + w) 8 (nI x) f = some (nI (sw a w x no)) := by
  have hO := fun i hi => of_at (i := i) h hw hi
  obtain ⟨g1, g2, g3, g4, g5⟩ := h
  have hx8 : x < 256 := by have := (shl8 no (by omega)).2.1; omega
  unfold fX11_sumOf
  have L := loopInv (fun q i (s : Int32) => fX11_sumOf_4L n (o + 22 + w) 8 q (nI x) s (nI i) f) 8 (fun i s => s = nI (sw a w x (min i no))) (fun r => r = nI (sw a w x no))
    (fun q s h => ⟨s, by simp (disch := omega) only [ltE, bnE, bn2E, gdE, nc, nI_add, n_mul, n_sub, ib_nI, up_hit, up_miss, n_le, n_lt, n_eq, n_eq0, n_lt0, n_0le, n_0lt, n_le0, zb_0, zb_1, if_pos, if_neg, ↓reduceIte, Nat.reduceAdd, Nat.reduceMul, Nat.reduceSub, fX11_sumOf_24, fX11_sumOf_4, fX11_sumOf_4L, show Int32.ofNat 8 = nI 8 from rfl, Nat.le_refl], by rw [h, show min 8 no = no from by omega]⟩) ?_ n 0 (nI 0) (by omega) (by omega) (by rw [Nat.zero_min]; rfl)
  · obtain ⟨r, e, h⟩ := L
    rw [h] at e; exact e
  · intro q i s hi h
    have ki : ¬ 8 ≤ i := by omega
    rw [h]
    refine Or.inr ⟨nI (sw a w x (min (i + 1) no)), ?_, rfl⟩
    by_cases hno : i < no
    · obtain ⟨o1, o2, o3⟩ := hO i hno
      rw [show min (i + 1) no = i + 1 from by omega, show min i no = i from by omega, sw_s]
      cases hb : x.testBit i
      · simp (disch := omega) only [ltE, bnE, bn2E, gdE, nc, nI_add, n_mul, n_sub, ib_nI, up_hit, up_miss, n_le, n_lt, n_eq, n_eq0, n_lt0, n_0le, n_0lt, n_le0, zb_0, zb_1, if_pos, if_neg, ↓reduceIte, Nat.reduceAdd, Nat.reduceMul, Nat.reduceSub, fX11_sumOf_24, fX11_sumOf_4, fX11_sumOf_4L, show Int32.ofNat 8 = nI 8 from rfl, ki, at_bit8 x hx8 i hi, hb, bI0, Nat.add_zero, Bool.false_eq_true]
      · simp (disch := omega) only [ltE, bnE, bn2E, gdE, nc, nI_add, n_mul, n_sub, ib_nI, up_hit, up_miss, n_le, n_lt, n_eq, n_eq0, n_lt0, n_0le, n_0lt, n_le0, zb_0, zb_1, if_pos, if_neg, ↓reduceIte, Nat.reduceAdd, Nat.reduceMul, Nat.reduceSub, fX11_sumOf_24, fX11_sumOf_4, fX11_sumOf_4L, show Int32.ofNat 8 = nI 8 from rfl, ki, at_bit8 x hx8 i hi, hb, bI0, o2, Bool.true_eq_false]
    · have hb : x.testBit i = false := Nat.testBit_lt_two_pow (Nat.lt_of_lt_of_le hx (Nat.pow_le_pow_right (by omega) (by omega)))
      rw [show min (i + 1) no = no from by omega, show min i no = no from by omega]
      simp (disch := omega) only [ltE, bnE, bn2E, gdE, nc, nI_add, n_mul, n_sub, ib_nI, up_hit, up_miss, n_le, n_lt, n_eq, n_eq0, n_lt0, n_0le, n_0lt, n_le0, zb_0, zb_1, if_pos, if_neg, ↓reduceIte, Nat.reduceAdd, Nat.reduceMul, Nat.reduceSub, fX11_sumOf_24, fX11_sumOf_4, fX11_sumOf_4L, show Int32.ofNat 8 = nI 8 from rfl, ki, at_bit8 x hx8 i hi, hb, bI0]
theorem sub_pos {M y : Nat} (hM : M ≤ 1000) (hy : y < 2147483648) : (0 < nI M - nI y) = (y < M) := by
  rw [Int32.lt_iff_toInt_lt, subI hM hy]
  have : (0 : Int32).toInt = 0 := rfl
  exact propext ⟨fun h => by omega, fun h => by omega⟩
theorem sub_z {M y : Nat} (hM : M ≤ 1000) (hy : y < 2147483648) : (nI M - nI y = 0) = (M = y) := by
  refine propext ⟨fun h => ?_, fun h => by subst h; exact Int32.sub_self _⟩
  have := congrArg Int32.toInt h
  rw [subI hM hy] at this
  have h0 : (0 : Int32).toInt = 0 := rfl
  omega
theorem Inv.buy {N : Nat} {f f' m m' : Mm} (h : Inv N f m) (hf : ∀ k, k < 103 → f' k = f k) (hl : lwSame N f f') (hm : ∀ k, k ≠ 117 → k ≠ 118 → k ≠ 119 → k ≠ 120 → m' k = m k) : Inv N f' m' :=
  h.w (by rw [hm 108 (by decide) (by decide) (by decide) (by decide)]; exact h.2.1.cg (fun k a b => hf k (by omega)) hl (fun _ => rfl)) (fun k hk => hf k (by omega)) hl (fun k _ _ h1 h2 h3 h4 => hm k h1 h2 h3 h4) (by rw [hm 108 (by decide) (by decide) (by decide) (by decide)])
theorem s_best (hn : 2000 ≤ n) : SP_best Inv n := by
  intro N f m a1 a2 hI
  have hI' := hI
  obtain ⟨hN, ⟨h0, nC, nw, ns, nk, ny, no, nt, h1, h2, h3, h4, h5, h6, h7⟩, hO⟩ := hI
  unfold fX11_best fX12_best
  simp only [bnE, r_inB, ite_in2, bI_ite, show ∀ x, fX11_isSum n x = some (bI (inB x (nI 0) (nI 9999))) from fun x => (rfl : fX11_isSum n x = fX12_in n x (nI 0) (nI 9999)).trans (r_inB (n := n))]
  cases hb : inB a1 (nI 0) (nI 9999)
  · exact ⟨_, f, rfl, rfl, hI'⟩
  cases hb2 : inB a2 (nI 0) (nI 2)
  · exact ⟨_, f, rfl, rfl, hI'⟩
  obtain ⟨V, _, V1, rfl⟩ := inB_r (by omega) (by omega) hb
  obtain ⟨w, _, w1, rfl⟩ := inB_r (by omega) (by omega) hb2
  simp only [cond_true]
  have g1 := h6.1
  have g2 : f 22 2 = nI no := h6.2.1
  have g3 : m 108 12 = nI no := h6.2.2.1
  obtain ⟨p1, p2, p3⟩ := shl8 no (by omega)
  have L := loopSim (fun q i (s : Mm) => fX0_chooseLargest_18L n 103 22 q (nI V) (nI (2 ^ no)) (nI i) s) (fun q i (x : Int32) => fX12_best_28L n q (nI V) (nI w) x (nI i) m) (2 ^ no)
    (fun i s x => 1 ≤ i ∧ ∃ b, b < 2 ^ no ∧ x = nI b ∧ s 103 0 = nI b ∧ s 103 1 = nI (sw (m 108) 0 b no) ∧ s 103 2 = nI (sw (m 108) 1 b no) ∧ ∀ k, k ≠ 103 → s k = f k)
    (fun s r => ∃ b, b < 2 ^ no ∧ r = nI (if w = 0 then b else sw (m 108) (w - 1) b no) ∧ s 103 0 = nI b ∧ s 103 1 = nI (sw (m 108) 0 b no) ∧ s 103 2 = nI (sw (m 108) 1 b no) ∧ ∀ k, k ≠ 103 → s k = f k) ?_ ?_ n 1 (up (up (up (up f 103 0 (nI 0)) 103 1 (nI 0)) 103 2 (nI 0)) 103 3 (nI 0)) (nI 0) (by omega) (by omega) ⟨by omega, 0, by omega, rfl, by simp (disch := omega) only [ltE, bnE, bn2E, gdE, nc, nI_add, n_mul, n_sub, ib_nI, up_hit, up_miss, n_le, n_lt, n_eq, n_eq0, n_lt0, n_0le, n_0lt, n_le0, zb_0, zb_1, if_pos, if_neg, ↓reduceIte, Nat.reduceAdd, Nat.reduceMul, Nat.reduceSub], ?_, ?_, fun k hk => by (simp (disch := omega) only [up_rn])⟩
  · obtain ⟨s, r, e1, e2, b, hb, rfl, s0, s1, s2, s3⟩ := L
    have hw : w = 0 ∨ w = 1 ∨ w = 2 := by omega
    refine ⟨_, s, ?_, e2, hI'.buy (fun k hk => s3 k (by omega)) (lwSame.of (fun k hk => s3 k (by omega))) (fun _ _ _ _ _ => rfl)⟩
    unfold fX0_chooseLargest fX0_choose
    simp (disch := omega) only [ltE, bnE, bn2E, gdE, nc, nI_add, n_mul, n_sub, ib_nI, up_hit, up_miss, n_le, n_lt, n_eq, n_eq0, n_lt0, n_0le, n_0lt, n_le0, zb_0, zb_1, if_pos, if_neg, ↓reduceIte, Nat.reduceAdd, Nat.reduceMul, Nat.reduceSub, g2, p1, e1, s0, s1, s2]
    rcases hw with rfl | rfl | rfl
    · rfl
    · rfl
    · rfl
  · rintro q s x ⟨_, b, hb, rfl, s0, s1, s2, s3⟩
    have hw : w = 0 ∨ w = 1 ∨ w = 2 := by omega
    refine ⟨s, nI (if w = 0 then b else sw (m 108) (w - 1) b no), by simp (disch := omega) only [ltE, bnE, bn2E, gdE, nc, nI_add, n_mul, n_sub, ib_nI, up_hit, up_miss, n_le, n_lt, n_eq, n_eq0, n_lt0, n_0le, n_0lt, n_le0, zb_0, zb_1, if_pos, if_neg, ↓reduceIte, Nat.reduceAdd, Nat.reduceMul, Nat.reduceSub, fX0_chooseLargest_102, fX0_chooseLargest_78, fX0_chooseLargest_73, fX0_chooseLargest_77, fX0_chooseLargest_18, fX0_chooseLargest_18L, Nat.le_refl], ?_, b, hb, rfl, s0, s1, s2, s3⟩
    show fX12_best_28 n (fX12_best_28L n q) (nI V) (nI w) (nI b) (nI (2 ^ no)) m = _
    unfold fX12_best_28
    rcases hw with rfl | rfl | rfl
    · simp (disch := omega) only [ltE, bnE, bn2E, gdE, nc, nI_add, n_mul, n_sub, ib_nI, up_hit, up_miss, n_le, n_lt, n_eq, n_eq0, n_lt0, n_0le, n_0lt, n_le0, zb_0, zb_1, if_pos, if_neg, ↓reduceIte, Nat.reduceAdd, Nat.reduceMul, Nat.reduceSub, g3, p1, Nat.le_refl]
    · simp (disch := omega) only [ltE, bnE, bn2E, gdE, nc, nI_add, n_mul, n_sub, ib_nI, up_hit, up_miss, n_le, n_lt, n_eq, n_eq0, n_lt0, n_0le, n_0lt, n_le0, zb_0, zb_1, if_pos, if_neg, ↓reduceIte, Nat.reduceAdd, Nat.reduceMul, Nat.reduceSub, g3, p1, Nat.le_refl, Nat.one_ne_zero, r_sumOf hn h6 (show b < 256 by omega)]
    · simp (disch := omega) only [ltE, bnE, bn2E, gdE, nc, nI_add, n_mul, n_sub, ib_nI, up_hit, up_miss, n_le, n_lt, n_eq, n_eq0, n_lt0, n_0le, n_0lt, n_le0, zb_0, zb_1, if_pos, if_neg, ↓reduceIte, Nat.reduceAdd, Nat.reduceMul, Nat.reduceSub, g3, p1, Nat.le_refl, Nat.reduceEqDiff, r_sumOf hn h6 (show b < 256 by omega)]
  · rintro q i s x hi ⟨hi1, b, hb, rfl, s0, s1, s2, s3⟩
    refine Or.inr ?_
    have ki : ¬ 2 ^ no ≤ i := by omega
    have hs6 : cOf s 1 (m 108) no := h6.cg (by rw [s3 _ (by omega)]) (s3 _ (by omega)) (s3 _ (by omega)) (fun _ _ => rfl)
    have c1 : fX11_sumOf n 24 8 (nI i) s = _ := c_sumOf (n := n) (w := 1) hn hs6 hi (by omega)
    have c0 : fX11_sumOf n 23 8 (nI i) s = _ := c_sumOf (n := n) (w := 0) hn hs6 hi (by omega)
    have r1 : fX12_sumOf n (nI i) (nI 1) m = _ := r_sumOf hn h6 (show i < 256 by omega) (by omega)
    have r0 : fX12_sumOf n (nI i) (nI 0) m = _ := r_sumOf hn h6 (show i < 256 by omega) (by omega)
    have r3 : fX12_sumOf n (nI b) (nI 1) m = _ := r_sumOf hn h6 (show b < 256 by omega) (by omega)
    have r2 : fX12_sumOf n (nI b) (nI 0) m = _ := r_sumOf hn h6 (show b < 256 by omega) (by omega)
    have z1 := sw_sz (x := i) h6
    have z2 := sw_sz (x := b) h6
    have z3 := sw_pr (x := i) h6
    have z4 := sw_pr (x := b) h6
    have cF : fX0_chooseLargest_18L n 103 22 (q + 1) (nI V) (nI (2 ^ no)) (nI i) s = fX0_chooseLargest_18 n 103 22 (fX0_chooseLargest_18L n 103 22 q) (nI V) (nI (2 ^ no)) (nI i) s := rfl
    have cK : fX12_best_28L n (q + 1) (nI V) (nI w) (nI b) (nI i) m = fX12_best_28 n (fX12_best_28L n q) (nI V) (nI w) (nI b) (nI i) m := rfl
    simp only [cF, cK]
    unfold fX0_chooseLargest_18 fX12_best_28
    simp (disch := omega) only [Nat.reduceAdd, g3, nc, p1, n_le, ki, if_false, c1, c0, r1, r0, r2, r3, bnE, s1, s2, n_lt, n_eq, sub_pos, sub_z]
    generalize hS : sw (m 108) 0 i no = S at *
    generalize hP : sw (m 108) 1 i no = P at *
    have stay : 1 ≤ i + 1 ∧ ∃ b', b' < 2 ^ no ∧ nI b = nI b' ∧ s 103 0 = nI b' ∧ s 103 1 = nI (sw (m 108) 0 b' no) ∧ s 103 2 = nI (sw (m 108) 1 b' no) ∧ ∀ k, k ≠ 103 → s k = f k := ⟨by omega, b, hb, rfl, s0, s1, s2, s3⟩
    have take : 1 ≤ i + 1 ∧ ∃ b', b' < 2 ^ no ∧ nI i = nI b' ∧ (up (up (up (up s 103 0 (nI i)) 103 1 (nI S)) 103 2 (nI P)) 103 3 (nI 0)) 103 0 = nI b' ∧ (up (up (up (up s 103 0 (nI i)) 103 1 (nI S)) 103 2 (nI P)) 103 3 (nI 0)) 103 1 = nI (sw (m 108) 0 b' no) ∧ (up (up (up (up s 103 0 (nI i)) 103 1 (nI S)) 103 2 (nI P)) 103 3 (nI 0)) 103 2 = nI (sw (m 108) 1 b' no) ∧ ∀ k, k ≠ 103 → (up (up (up (up s 103 0 (nI i)) 103 1 (nI S)) 103 2 (nI P)) 103 3 (nI 0)) k = f k :=
      ⟨by omega, i, hi, rfl, by simp (disch := omega) only [ltE, bnE, bn2E, gdE, nc, nI_add, n_mul, n_sub, ib_nI, up_hit, up_miss, n_le, n_lt, n_eq, n_eq0, n_lt0, n_0le, n_0lt, n_le0, zb_0, zb_1, if_pos, if_neg, ↓reduceIte, Nat.reduceAdd, Nat.reduceMul, Nat.reduceSub], by rw [hS]; simp (disch := omega) only [ltE, bnE, bn2E, gdE, nc, nI_add, n_mul, n_sub, ib_nI, up_hit, up_miss, n_le, n_lt, n_eq, n_eq0, n_lt0, n_0le, n_0lt, n_le0, zb_0, zb_1, if_pos, if_neg, ↓reduceIte, Nat.reduceAdd, Nat.reduceMul, Nat.reduceSub], by rw [hP]; simp (disch := omega) only [ltE, bnE, bn2E, gdE, nc, nI_add, n_mul, n_sub, ib_nI, up_hit, up_miss, n_le, n_lt, n_eq, n_eq0, n_lt0, n_0le, n_0lt, n_le0, zb_0, zb_1, if_pos, if_neg, ↓reduceIte, Nat.reduceAdd, Nat.reduceMul, Nat.reduceSub], fun k hk => by simp (disch := omega) only [up_rn]; exact s3 k hk⟩
    unfold fX0_chooseLargest_73 fX0_chooseLargest_77 fX0_chooseLargest_78 fX0_chooseLargest_102 fX0_choose fX12_best_95 fX12_best_100 fX12_best_101 fX12_best_102
    by_cases y1 : V < P
    · refine ⟨s, nI b, ?_, ?_, stay⟩
      · simp (disch := omega) only [ltE, bnE, bn2E, gdE, nc, nI_add, n_mul, n_sub, ib_nI, up_hit, up_miss, n_le, n_lt, n_eq, n_eq0, n_lt0, n_0le, n_0lt, n_le0, zb_0, zb_1, if_pos, if_neg, ↓reduceIte, Nat.reduceAdd, Nat.reduceMul, Nat.reduceSub, y1, ite_self]
      · simp (disch := omega) only [ltE, bnE, bn2E, gdE, nc, nI_add, n_mul, n_sub, ib_nI, up_hit, up_miss, n_le, n_lt, n_eq, n_eq0, n_lt0, n_0le, n_0lt, n_le0, zb_0, zb_1, if_pos, if_neg, ↓reduceIte, Nat.reduceAdd, Nat.reduceMul, Nat.reduceSub, y1]
    by_cases y2 : sw (m 108) 0 b no < S
    · refine ⟨_, nI i, ?_, ?_, take⟩
      · simp (disch := omega) only [ltE, bnE, bn2E, gdE, nc, nI_add, n_mul, n_sub, ib_nI, up_hit, up_miss, n_le, n_lt, n_eq, n_eq0, n_lt0, n_0le, n_0lt, n_le0, zb_0, zb_1, if_pos, if_neg, ↓reduceIte, Nat.reduceAdd, Nat.reduceMul, Nat.reduceSub, y1, y2, Nat.one_ne_zero]
      · simp (disch := omega) only [ltE, bnE, bn2E, gdE, nc, nI_add, n_mul, n_sub, ib_nI, up_hit, up_miss, n_le, n_lt, n_eq, n_eq0, n_lt0, n_0le, n_0lt, n_le0, zb_0, zb_1, if_pos, if_neg, ↓reduceIte, Nat.reduceAdd, Nat.reduceMul, Nat.reduceSub, y1, y2]
    by_cases y3 : S = sw (m 108) 0 b no
    · by_cases y4 : sw (m 108) 1 b no ≤ P
      · refine ⟨s, nI b, ?_, ?_, stay⟩
        · simp (disch := omega) only [ltE, bnE, bn2E, gdE, nc, nI_add, n_mul, n_sub, ib_nI, up_hit, up_miss, n_le, n_lt, n_eq, n_eq0, n_lt0, n_0le, n_0lt, n_le0, zb_0, zb_1, if_pos, if_neg, ↓reduceIte, Nat.reduceAdd, Nat.reduceMul, Nat.reduceSub, y1, y2, y3, y4, Nat.lt_irrefl]
        · simp (disch := omega) only [ltE, bnE, bn2E, gdE, nc, nI_add, n_mul, n_sub, ib_nI, up_hit, up_miss, n_le, n_lt, n_eq, n_eq0, n_lt0, n_0le, n_0lt, n_le0, zb_0, zb_1, if_pos, if_neg, ↓reduceIte, Nat.reduceAdd, Nat.reduceMul, Nat.reduceSub, y1, y2, y3, y4, Nat.lt_irrefl]
      · refine ⟨_, nI i, ?_, ?_, take⟩
        · simp (disch := omega) only [ltE, bnE, bn2E, gdE, nc, nI_add, n_mul, n_sub, ib_nI, up_hit, up_miss, n_le, n_lt, n_eq, n_eq0, n_lt0, n_0le, n_0lt, n_le0, zb_0, zb_1, if_pos, if_neg, ↓reduceIte, Nat.reduceAdd, Nat.reduceMul, Nat.reduceSub, y1, y2, y3, y4, Nat.lt_irrefl, Nat.one_ne_zero]
        · simp (disch := omega) only [ltE, bnE, bn2E, gdE, nc, nI_add, n_mul, n_sub, ib_nI, up_hit, up_miss, n_le, n_lt, n_eq, n_eq0, n_lt0, n_0le, n_0lt, n_le0, zb_0, zb_1, if_pos, if_neg, ↓reduceIte, Nat.reduceAdd, Nat.reduceMul, Nat.reduceSub, y1, y2, y3, y4, Nat.lt_irrefl]
    · refine ⟨s, nI b, ?_, ?_, stay⟩
      · simp (disch := omega) only [ltE, bnE, bn2E, gdE, nc, nI_add, n_mul, n_sub, ib_nI, up_hit, up_miss, n_le, n_lt, n_eq, n_eq0, n_lt0, n_0le, n_0lt, n_le0, zb_0, zb_1, if_pos, if_neg, ↓reduceIte, Nat.reduceAdd, Nat.reduceMul, Nat.reduceSub, y1, y2, y3]
      · simp (disch := omega) only [ltE, bnE, bn2E, gdE, nc, nI_add, n_mul, n_sub, ib_nI, up_hit, up_miss, n_le, n_lt, n_eq, n_eq0, n_lt0, n_0le, n_0lt, n_le0, zb_0, zb_1, if_pos, if_neg, ↓reduceIte, Nat.reduceAdd, Nat.reduceMul, Nat.reduceSub, y1, y2, y3]
  · rw [show sw (m 108) 0 0 no = 0 from sm_z no (fun i _ => by rw [Nat.zero_testBit]; rfl)]; simp (disch := omega) only [ltE, bnE, bn2E, gdE, nc, nI_add, n_mul, n_sub, ib_nI, up_hit, up_miss, n_le, n_lt, n_eq, n_eq0, n_lt0, n_0le, n_0lt, n_le0, zb_0, zb_1, if_pos, if_neg, ↓reduceIte, Nat.reduceAdd, Nat.reduceMul, Nat.reduceSub]
  · rw [show sw (m 108) 1 0 no = 0 from sm_z no (fun i _ => by rw [Nat.zero_testBit]; rfl)]; simp (disch := omega) only [ltE, bnE, bn2E, gdE, nc, nI_add, n_mul, n_sub, ib_nI, up_hit, up_miss, n_le, n_lt, n_eq, n_eq0, n_lt0, n_0le, n_0lt, n_le0, zb_0, zb_1, if_pos, if_neg, ↓reduceIte, Nat.reduceAdd, Nat.reduceMul, Nat.reduceSub]
end WB
