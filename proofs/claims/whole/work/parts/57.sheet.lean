/-! what is marked, read, copied, laid -/
section WM
variable {n : Nat}
theorem c_isMissing {r : Nat} {f : Mm} : fX5_isMissing n r f = some (bI (decide (f r 0 = -1))) := by
  unfold fX5_isMissing
  by_cases q : f r 0 = -1
  · rw [if_pos q, decide_eq_true q]; rfl
  · rw [if_neg q, decide_eq_false q]; rfl
/-- one cell anew -/
theorem sh_cell {N j t : Nat} {f f' m m' : Mm} {v : Int32} (hI : Inv N f m) (hj : j < 4) (ht : t < 24) (c : f' = up f (75 + 2 * j) t v) (r : m' = up m 123 (24 * j + t) v) : Inv N f' m' := by
  subst c r
  refine hI.sh (fun i hi => ?_) (hI.2.2.2.2.1.cg (fun k a b => up_rn (by omega)) (fun k a b => up_rn (by omega))) (fun k hk => up_rn (by omega)) (fun k hk => up_rn (by omega))
  rw [up_rn (show 74 + 2 * i ≠ 75 + 2 * j by omega), up_rn (show 121 ≠ 123 by omega), up_rn (show 122 ≠ 123 by omega)]
  obtain ⟨q1, q2, q3⟩ := hI.2.2.2.1 i hi
  refine ⟨q1, q2, fun k hk => ?_⟩
  by_cases e : i = j
  · subst e
    by_cases e2 : k = t
    · subst e2; rw [up_hit, up_hit]
    · rw [up_miss (Or.inr e2), up_miss (Or.inr (by omega))]; exact q3 k hk
  · rw [up_miss (Or.inl (by omega)), up_miss (Or.inr (by omega))]; exact q3 k hk
theorem s_mark (hn : 2000 ≤ n) : SP_mark Inv n := by
  intro N f m a1 a2 a3 hI
  have hS := hI.2.2.2.1
  unfold fX11_mark fX12_mark
  simp (disch := omega) only [ltE, bnE, bn2E, gdE, nc, nI_add, n_mul, n_sub, ib_nI, up_hit, up_miss, n_le, n_lt, n_eq, n_eq0, n_lt0, n_0le, n_0lt, n_le0, zb_0, zb_1, if_pos, if_neg, ↓reduceIte, Nat.reduceAdd, Nat.reduceMul, Nat.reduceSub, c_isSheet, r_isSheet, bI_ite]
  cases hb : inB a1 (nI 0) (nI 3)
  · exact ⟨_, f, m, rfl, rfl, hI⟩
  obtain ⟨j, _, j1, rfl⟩ := inB_r (by omega) (by omega) hb
  obtain ⟨q1, ⟨k, k1, k2, k3⟩, q3⟩ := hS j (by omega)
  simp (disch := omega) only [ltE, bnE, bn2E, gdE, nc, nI_add, n_mul, n_sub, ib_nI, up_hit, up_miss, n_le, n_lt, n_eq, n_eq0, n_lt0, n_0le, n_0lt, n_le0, zb_0, zb_1, if_pos, if_neg, ↓reduceIte, Nat.reduceAdd, Nat.reduceMul, Nat.reduceSub, cond_true, c_isMissing, bI_ite, c_has5 k2, k3, r_inB]
  rcases q1 with ⟨x1, x2⟩ | ⟨s, s1, x1, x2⟩
  · refine ⟨-1000000011, f, m, ?_, ?_, hI⟩
    · simp only [x1, decide_true, cond_true]
    · simp only [x2, m1_le, if_false]
  have ns : ¬ nI s = -1 := fun e => (m1_nI (show s < 1000 by omega)).mp e.symm
  simp (disch := omega) only [ltE, bnE, bn2E, gdE, nc, nI_add, n_mul, n_sub, ib_nI, up_hit, up_miss, n_le, n_lt, n_eq, n_eq0, n_lt0, n_0le, n_0lt, n_le0, zb_0, zb_1, if_pos, if_neg, ↓reduceIte, Nat.reduceAdd, Nat.reduceMul, Nat.reduceSub, x1, x2, ns, decide_false, cond_false]
  cases hb2 : inB a2 (nI 0) (nI k - nI 1)
  · exact ⟨_, f, m, rfl, rfl, hI⟩
  obtain ⟨t, t1, rfl⟩ := inB_h (by omega) hb2
  simp only [cond_true]
  have e75 : 74 + 2 * j + 1 = 75 + 2 * j := by omega
  have hs : s = 0 ∨ s = 1 := by omega
  rcases hs with rfl | rfl
  · by_cases q : a3 = -1000000005
    · refine ⟨-1000000012, f, m, ?_, ?_, hI⟩
      · simp (disch := omega) only [ltE, bnE, bn2E, gdE, nc, nI_add, n_mul, n_sub, ib_nI, up_hit, up_miss, n_le, n_lt, n_eq, n_eq0, n_lt0, n_0le, n_0lt, n_le0, zb_0, zb_1, if_pos, if_neg, ↓reduceIte, Nat.reduceAdd, Nat.reduceMul, Nat.reduceSub, q]
      · simp (disch := omega) only [ltE, bnE, bn2E, gdE, nc, nI_add, n_mul, n_sub, ib_nI, up_hit, up_miss, n_le, n_lt, n_eq, n_eq0, n_lt0, n_0le, n_0lt, n_le0, zb_0, zb_1, if_pos, if_neg, ↓reduceIte, Nat.reduceAdd, Nat.reduceMul, Nat.reduceSub, q]
    · refine ⟨nI 1, _, _, ?_, ?_, sh_cell (v := i2sI a3) hI (show j < 4 by omega) (show t < 24 by omega) rfl rfl⟩
      · simp (disch := omega) only [ltE, bnE, bn2E, gdE, nc, nI_add, n_mul, n_sub, ib_nI, up_hit, up_miss, n_le, n_lt, n_eq, n_eq0, n_lt0, n_0le, n_0lt, n_le0, zb_0, zb_1, if_pos, if_neg, ↓reduceIte, Nat.reduceAdd, Nat.reduceMul, Nat.reduceSub, q, e75]
      · simp (disch := omega) only [ltE, bnE, bn2E, gdE, nc, nI_add, n_mul, n_sub, ib_nI, up_hit, up_miss, n_le, n_lt, n_eq, n_eq0, n_lt0, n_0le, n_0lt, n_le0, zb_0, zb_1, if_pos, if_neg, ↓reduceIte, Nat.reduceAdd, Nat.reduceMul, Nat.reduceSub, q, fX12_mark_61, fX12_mark_93, fX12_mark_118, x2, Nat.zero_ne_one]
  · by_cases q : a3 = -1000000005
    · refine ⟨nI 1, _, _, ?_, ?_, sh_cell (v := -1000000005) hI (show j < 4 by omega) (show t < 24 by omega) rfl rfl⟩
      · simp (disch := omega) only [ltE, bnE, bn2E, gdE, nc, nI_add, n_mul, n_sub, ib_nI, up_hit, up_miss, n_le, n_lt, n_eq, n_eq0, n_lt0, n_0le, n_0lt, n_le0, zb_0, zb_1, if_pos, if_neg, ↓reduceIte, Nat.reduceAdd, Nat.reduceMul, Nat.reduceSub, q, e75, fX11_mark_94, fX11_mark_112, Nat.one_ne_zero]
      · simp (disch := omega) only [ltE, bnE, bn2E, gdE, nc, nI_add, n_mul, n_sub, ib_nI, up_hit, up_miss, n_le, n_lt, n_eq, n_eq0, n_lt0, n_0le, n_0lt, n_le0, zb_0, zb_1, if_pos, if_neg, ↓reduceIte, Nat.reduceAdd, Nat.reduceMul, Nat.reduceSub, q, fX12_mark_61, fX12_mark_93, fX12_mark_118, x2, Nat.one_ne_zero]
    · simp (disch := omega) only [ltE, bnE, bn2E, gdE, nc, nI_add, n_mul, n_sub, ib_nI, up_hit, up_miss, n_le, n_lt, n_eq, n_eq0, n_lt0, n_0le, n_0lt, n_le0, zb_0, zb_1, if_pos, if_neg, ↓reduceIte, Nat.reduceAdd, Nat.reduceMul, Nat.reduceSub, q, e75, fX11_mark_94, fX11_mark_112, fX12_mark_61, fX12_mark_93, fX12_mark_118, x2, Nat.one_ne_zero, ite_inL, r_inB, bI_ite]
      cases hb3 : inB a3 (-99999) (nI 99999)
      · exact ⟨_, f, m, rfl, rfl, hI⟩
      · exact ⟨nI 1, _, _, rfl, rfl, sh_cell (v := a3) hI (show j < 4 by omega) (show t < 24 by omega) rfl rfl⟩
theorem s_reads (hn : 2000 ≤ n) : SP_reads Inv n := by
  intro N f m a1 a2 a3 hI
  have hI' := hI
  have hS := hI.2.2.2.1
  have hA := hI.2.1.okA
  have hW := hI.2.1
  obtain ⟨hN, ⟨h0, nC, nw, ns, nk, ny, no, nt, h1, h2, h3, h4, h5, h6, h7⟩, hO⟩ := hI
  obtain ⟨g1, g2, g3, g4, g5, g6⟩ := h1
  have g2 : f 2 3 = nI nC := g2
  have hct : ct (m 108) 6 = nC := by unfold ct; rw [g3]; exact nc (by omega)
  unfold fX11_reads fX12_reads
  simp (disch := omega) only [ltE, bnE, bn2E, gdE, nc, nI_add, n_mul, n_sub, ib_nI, up_hit, up_miss, n_le, n_lt, n_eq, n_eq0, n_lt0, n_0le, n_0lt, n_le0, zb_0, zb_1, if_pos, if_neg, ↓reduceIte, Nat.reduceAdd, Nat.reduceMul, Nat.reduceSub, c_isSheet, r_isSheet, c_has1 g2, r_isCoil, g3, c_isDay, r_isDay, bI_ite]
  cases hb : inB a1 (nI 0) (nI 3)
  · exact ⟨_, rfl, rfl, hI'⟩
  cases hb2 : inB a2 (nI 0) (nI nC - nI 1)
  · exact ⟨_, rfl, rfl, hI'⟩
  cases hb3 : inB a3 (nI 0) (nI 1999)
  · exact ⟨_, rfl, rfl, hI'⟩
  obtain ⟨j, _, j1, rfl⟩ := inB_r (by omega) (by omega) hb
  obtain ⟨c, c1, rfl⟩ := inB_h (by omega) hb2
  obtain ⟨d, _, d1, rfl⟩ := inB_r (by omega) (by omega) hb3
  obtain ⟨q1, ⟨k, k1, k2, k3⟩, q3⟩ := hS j (by omega)
  have e75 : 74 + 2 * j + 1 = 75 + 2 * j := by omega
  simp (disch := omega) only [ltE, bnE, bn2E, gdE, nc, nI_add, n_mul, n_sub, ib_nI, up_hit, up_miss, n_le, n_lt, n_eq, n_eq0, n_lt0, n_0le, n_0lt, n_le0, zb_0, zb_1, if_pos, if_neg, ↓reduceIte, Nat.reduceAdd, Nat.reduceMul, Nat.reduceSub, cond_true, c_isMissing, bI_ite]
  rcases q1 with ⟨x1, x2⟩ | ⟨s, s1, x1, x2⟩
  · refine ⟨-1000000011, ?_, ?_, hI'⟩
    · simp only [x1, decide_true, cond_true]
    · simp only [x2, m1_le, if_false]
  have ns : ¬ nI s = -1 := fun e => (m1_nI (show s < 1000 by omega)).mp e.symm
  simp (disch := omega) only [ltE, bnE, bn2E, gdE, nc, nI_add, n_mul, n_sub, ib_nI, up_hit, up_miss, n_le, n_lt, n_eq, n_eq0, n_lt0, n_0le, n_0lt, n_le0, zb_0, zb_1, if_pos, if_neg, ↓reduceIte, Nat.reduceAdd, Nat.reduceMul, Nat.reduceSub, x1, x2, ns, decide_false, cond_false]
  have L := loopSim (fun q i (_ : Unit) => fX11_reads_54L n q (nI c) (nI d) (74 + 2 * j) (nI i) f) (fun q i (_ : Unit) => fX12_reads_41L n q (nI j) (nI c) (nI d) (nI i) m) k (fun i s t => True) (fun r p => r = p) ?_ ?_ n 0 () () (by omega) (by omega) trivial
  · obtain ⟨r, p, e1, e2, e3⟩ := L
    subst e3
    exact ⟨r, e1, e2, hI'⟩
  · rintro q _ _ _
    exact ⟨-1000000005, -1000000005, by simp (disch := omega) only [ltE, bnE, bn2E, gdE, nc, nI_add, n_mul, n_sub, ib_nI, up_hit, up_miss, n_le, n_lt, n_eq, n_eq0, n_lt0, n_0le, n_0lt, n_le0, zb_0, zb_1, if_pos, if_neg, ↓reduceIte, Nat.reduceAdd, Nat.reduceMul, Nat.reduceSub, fX11_reads_103, fX11_reads_54, fX11_reads_54L, k2, Nat.le_refl], by simp (disch := omega) only [ltE, bnE, bn2E, gdE, nc, nI_add, n_mul, n_sub, ib_nI, up_hit, up_miss, n_le, n_lt, n_eq, n_eq0, n_lt0, n_0le, n_0lt, n_le0, zb_0, zb_1, if_pos, if_neg, ↓reduceIte, Nat.reduceAdd, Nat.reduceMul, Nat.reduceSub, fX12_reads_90, fX12_reads_41, fX12_reads_41L, k3, Nat.le_refl], rfl⟩
  · rintro q i _ _ hi _
    have e3 := q3 i (by omega)
    have ki : ¬ k ≤ i := by omega
    have l1 := c_lineOf (n := n) hn hW (c := c) (by rw [hct]; exact c1) (d := nI (d + i))
    have l2 := q_lineOf (n := n) hn hA (c := c) (by omega) (d := nI (d + i))
    by_cases w1 : m 123 (24 * j + i) = -1000000005
    · exact Or.inr ⟨(), (), by simp (disch := omega) only [ltE, bnE, bn2E, gdE, nc, nI_add, n_mul, n_sub, ib_nI, up_hit, up_miss, n_le, n_lt, n_eq, n_eq0, n_lt0, n_0le, n_0lt, n_le0, zb_0, zb_1, if_pos, if_neg, ↓reduceIte, Nat.reduceAdd, Nat.reduceMul, Nat.reduceSub, fX11_reads_103, fX11_reads_54, fX11_reads_54L, k2, ki, e75, e3, w1], by simp (disch := omega) only [ltE, bnE, bn2E, gdE, nc, nI_add, n_mul, n_sub, ib_nI, up_hit, up_miss, n_le, n_lt, n_eq, n_eq0, n_lt0, n_0le, n_0lt, n_le0, zb_0, zb_1, if_pos, if_neg, ↓reduceIte, Nat.reduceAdd, Nat.reduceMul, Nat.reduceSub, fX12_reads_90, fX12_reads_41, fX12_reads_41L, k3, ki, w1], trivial⟩
    · by_cases w2 : m 123 (24 * j + i) = m 108 (14 + 3 * c) * nI (d + i) + lineS (m 108) (nI c) (nI (d + i))
      · have w1' := w1
        rw [w2] at w1'
        exact Or.inr ⟨(), (), by simp (disch := omega) only [ltE, bnE, bn2E, gdE, nc, nI_add, n_mul, n_sub, ib_nI, up_hit, up_miss, n_le, n_lt, n_eq, n_eq0, n_lt0, n_0le, n_0lt, n_le0, zb_0, zb_1, if_pos, if_neg, ↓reduceIte, Nat.reduceAdd, Nat.reduceMul, Nat.reduceSub, fX11_reads_103, fX11_reads_54, fX11_reads_54L, k2, ki, e75, e3, l1, w2, w1'], by simp (disch := omega) only [ltE, bnE, bn2E, gdE, nc, nI_add, n_mul, n_sub, ib_nI, up_hit, up_miss, n_le, n_lt, n_eq, n_eq0, n_lt0, n_0le, n_0lt, n_le0, zb_0, zb_1, if_pos, if_neg, ↓reduceIte, Nat.reduceAdd, Nat.reduceMul, Nat.reduceSub, fX12_reads_90, fX12_reads_41, fX12_reads_41L, k3, ki, l2, w2, w1'], trivial⟩
      · exact Or.inl ⟨nI i, nI i, by simp (disch := omega) only [ltE, bnE, bn2E, gdE, nc, nI_add, n_mul, n_sub, ib_nI, up_hit, up_miss, n_le, n_lt, n_eq, n_eq0, n_lt0, n_0le, n_0lt, n_le0, zb_0, zb_1, if_pos, if_neg, ↓reduceIte, Nat.reduceAdd, Nat.reduceMul, Nat.reduceSub, fX11_reads_103, fX11_reads_54, fX11_reads_54L, k2, ki, e75, e3, l1, w2, w1], by simp (disch := omega) only [ltE, bnE, bn2E, gdE, nc, nI_add, n_mul, n_sub, ib_nI, up_hit, up_miss, n_le, n_lt, n_eq, n_eq0, n_lt0, n_0le, n_0lt, n_le0, zb_0, zb_1, if_pos, if_neg, ↓reduceIte, Nat.reduceAdd, Nat.reduceMul, Nat.reduceSub, fX12_reads_90, fX12_reads_41, fX12_reads_41L, k3, ki, l2, w2, w1], rfl⟩
end WM
