/-! calls that change one part of the world -/
section K1
variable {n : Nat}
theorem s_coil (hn : 2000 ≤ n) : SP_coil Inv n := by
  intro N f m a1 hI
  have hI' := hI
  obtain ⟨hN, ⟨h0, nC, nw, ns, nk, ny, no, nt, h1, h2, h3, h4, h5, h6, h7⟩, hO⟩ := hI
  obtain ⟨g1, g2, g3, g4, g5, g6⟩ := h1
  have g2 : f 2 3 = nI nC := g2
  unfold fX11_coil fX12_coil
  simp (disch := omega) only [lt_eq, bn_s, bn2_s, gd_t, nc, nI_add, n_mul, n_sub, ib_nI, up_hit, up_miss, n_le, n_lt, n_eq, n_eq0, n_lt0, n_0le, n_0lt, n_le0, zb_0, zb_1, if_pos, if_neg, ↓reduceIte, Nat.reduceAdd, Nat.reduceMul, Nat.reduceSub, c_isSize, r_inB, bI_ite, fX1_add, g2, g3]
  cases hb : inB a1 (nI 1) (nI 9)
  · exact ⟨_, f, m, rfl, rfl, hI'⟩
  obtain ⟨j, j1, j2, rfl⟩ := inB_r (by omega) (by omega) hb
  simp only [cond_true]
  by_cases q : nC = 6
  · simp (disch := omega) only [lt_eq, bn_s, bn2_s, gd_t, nc, nI_add, n_mul, n_sub, ib_nI, up_hit, up_miss, n_le, n_lt, n_eq, n_eq0, n_lt0, n_0le, n_0lt, n_le0, zb_0, zb_1, if_pos, if_neg, ↓reduceIte, Nat.reduceAdd, Nat.reduceMul, Nat.reduceSub, q]
    exact ⟨_, f, m, rfl, rfl, hI'⟩
  · have e1 : 13 + 3 * nC + 1 = 14 + 3 * nC := by omega
    have e2 : 13 + 3 * nC + 2 = 15 + 3 * nC := by omega
    simp (disch := omega) only [lt_eq, bn_s, bn2_s, gd_t, nc, nI_add, n_mul, n_sub, ib_nI, up_hit, up_miss, n_le, n_lt, n_eq, n_eq0, n_lt0, n_0le, n_0lt, n_le0, zb_0, zb_1, if_pos, if_neg, ↓reduceIte, Nat.reduceAdd, Nat.reduceMul, Nat.reduceSub, q, e1, e2, g2, g3]
    refine ⟨_, _, _, rfl, rfl, hI'.w ?_ (fun k hk => by (simp (disch := omega) only [up_rn])) (lwSame.of (fun k hk => by (simp (disch := omega) only [up_rn]))) (fun k k1 _ _ _ _ _ => by (simp (disch := omega) only [up_rn])) (by (simp (disch := omega) only [up_miss]))⟩
    refine putCo (nc' := nC + 1) h0 h2 h3 h4 h5 h6 h7 ⟨by omega, up_hit, up_hit, fun i hi => ?_, fun i hi => ?_, fun i hi => ?_⟩ (by omega) (by (simp (disch := omega) only [up_rn])) (fun k k1 k2 k3 k4 k5 k6 => by (simp (disch := omega) only [up_rn])) (fun i hi => by (simp (disch := omega) only [up_miss])) (lwSame.of (fun k hk => by (simp (disch := omega) only [up_rn])))
    · by_cases w : i = nC
      · subst w
        exact ⟨j, j1, j2, by simp (disch := omega) only [lt_eq, bn_s, bn2_s, gd_t, nc, nI_add, n_mul, n_sub, ib_nI, up_hit, up_miss, n_le, n_lt, n_eq, n_eq0, n_lt0, n_0le, n_0lt, n_le0, zb_0, zb_1, if_pos, if_neg, ↓reduceIte, Nat.reduceAdd, Nat.reduceMul, Nat.reduceSub], by simp (disch := omega) only [lt_eq, bn_s, bn2_s, gd_t, nc, nI_add, n_mul, n_sub, ib_nI, up_hit, up_miss, n_le, n_lt, n_eq, n_eq0, n_lt0, n_0le, n_0lt, n_le0, zb_0, zb_1, if_pos, if_neg, ↓reduceIte, Nat.reduceAdd, Nat.reduceMul, Nat.reduceSub]⟩
      · obtain ⟨s, s1, s2, s3, s4⟩ := g4 i (by omega)
        have s3 : f 3 i = nI s := s3
        exact ⟨s, s1, s2, by simp (disch := omega) only [lt_eq, bn_s, bn2_s, gd_t, nc, nI_add, n_mul, n_sub, ib_nI, up_hit, up_miss, n_le, n_lt, n_eq, n_eq0, n_lt0, n_0le, n_0lt, n_le0, zb_0, zb_1, if_pos, if_neg, ↓reduceIte, Nat.reduceAdd, Nat.reduceMul, Nat.reduceSub, s3], by simp (disch := omega) only [lt_eq, bn_s, bn2_s, gd_t, nc, nI_add, n_mul, n_sub, ib_nI, up_hit, up_miss, n_le, n_lt, n_eq, n_eq0, n_lt0, n_0le, n_0lt, n_le0, zb_0, zb_1, if_pos, if_neg, ↓reduceIte, Nat.reduceAdd, Nat.reduceMul, Nat.reduceSub, s4]⟩
    · by_cases w : i = nC
      · subst w
        simp (disch := omega) only [lt_eq, bn_s, bn2_s, gd_t, nc, nI_add, n_mul, n_sub, ib_nI, up_hit, up_miss, n_le, n_lt, n_eq, n_eq0, n_lt0, n_0le, n_0lt, n_le0, zb_0, zb_1, if_pos, if_neg, ↓reduceIte, Nat.reduceAdd, Nat.reduceMul, Nat.reduceSub]
      · have s3 : f 4 i = m 108 (14 + 3 * i) := g5 i (by omega)
        simp (disch := omega) only [lt_eq, bn_s, bn2_s, gd_t, nc, nI_add, n_mul, n_sub, ib_nI, up_hit, up_miss, n_le, n_lt, n_eq, n_eq0, n_lt0, n_0le, n_0lt, n_le0, zb_0, zb_1, if_pos, if_neg, ↓reduceIte, Nat.reduceAdd, Nat.reduceMul, Nat.reduceSub, s3]
    · by_cases w : i = nC
      · subst w
        exact Or.inl ⟨by simp (disch := omega) only [lt_eq, bn_s, bn2_s, gd_t, nc, nI_add, n_mul, n_sub, ib_nI, up_hit, up_miss, n_le, n_lt, n_eq, n_eq0, n_lt0, n_0le, n_0lt, n_le0, zb_0, zb_1, if_pos, if_neg, ↓reduceIte, Nat.reduceAdd, Nat.reduceMul, Nat.reduceSub]; rfl, by simp (disch := omega) only [lt_eq, bn_s, bn2_s, gd_t, nc, nI_add, n_mul, n_sub, ib_nI, up_hit, up_miss, n_le, n_lt, n_eq, n_eq0, n_lt0, n_0le, n_0lt, n_le0, zb_0, zb_1, if_pos, if_neg, ↓reduceIte, Nat.reduceAdd, Nat.reduceMul, Nat.reduceSub]⟩
      · rcases g6 i (by omega) with ⟨s1, s2⟩ | ⟨j, s1, s2, s3, s4, s5⟩
        · have s1 : f 5 i = NONEi := s1
          exact Or.inl ⟨by simp (disch := omega) only [lt_eq, bn_s, bn2_s, gd_t, nc, nI_add, n_mul, n_sub, ib_nI, up_hit, up_miss, n_le, n_lt, n_eq, n_eq0, n_lt0, n_0le, n_0lt, n_le0, zb_0, zb_1, if_pos, if_neg, ↓reduceIte, Nat.reduceAdd, Nat.reduceMul, Nat.reduceSub, s1], by simp (disch := omega) only [lt_eq, bn_s, bn2_s, gd_t, nc, nI_add, n_mul, n_sub, ib_nI, up_hit, up_miss, n_le, n_lt, n_eq, n_eq0, n_lt0, n_0le, n_0lt, n_le0, zb_0, zb_1, if_pos, if_neg, ↓reduceIte, Nat.reduceAdd, Nat.reduceMul, Nat.reduceSub, s2]⟩
        · have s3 : f 5 i = nI j := s3
          exact Or.inr ⟨j, by omega, s2, by simp (disch := omega) only [lt_eq, bn_s, bn2_s, gd_t, nc, nI_add, n_mul, n_sub, ib_nI, up_hit, up_miss, n_le, n_lt, n_eq, n_eq0, n_lt0, n_0le, n_0lt, n_le0, zb_0, zb_1, if_pos, if_neg, ↓reduceIte, Nat.reduceAdd, Nat.reduceMul, Nat.reduceSub, s3], by simp (disch := omega) only [lt_eq, bn_s, bn2_s, gd_t, nc, nI_add, n_mul, n_sub, ib_nI, up_hit, up_miss, n_le, n_lt, n_eq, n_eq0, n_lt0, n_0le, n_0lt, n_le0, zb_0, zb_1, if_pos, if_neg, ↓reduceIte, Nat.reduceAdd, Nat.reduceMul, Nat.reduceSub, s4], by simp (disch := omega) only [lt_eq, bn_s, bn2_s, gd_t, nc, nI_add, n_mul, n_sub, ib_nI, up_hit, up_miss, n_le, n_lt, n_eq, n_eq0, n_lt0, n_0le, n_0lt, n_le0, zb_0, zb_1, if_pos, if_neg, ↓reduceIte, Nat.reduceAdd, Nat.reduceMul, Nat.reduceSub, s5]⟩
theorem s_creep (hn : 2000 ≤ n) : SP_creep Inv n := by
  intro N f m a1 a2 hI
  have hI' := hI
  obtain ⟨hN, ⟨h0, nC, nw, ns, nk, ny, no, nt, h1, h2, h3, h4, h5, h6, h7⟩, hO⟩ := hI
  obtain ⟨g1, g2, g3, g4, g5, g6⟩ := h1
  have g2 : f 2 3 = nI nC := g2
  unfold fX11_creep fX12_creep
  simp (disch := omega) only [lt_eq, bn_s, bn2_s, gd_t, nc, nI_add, n_mul, n_sub, ib_nI, up_hit, up_miss, n_le, n_lt, n_eq, n_eq0, n_lt0, n_0le, n_0lt, n_le0, zb_0, zb_1, if_pos, if_neg, ↓reduceIte, Nat.reduceAdd, Nat.reduceMul, Nat.reduceSub, c_has1 g2, r_isCoil, g3, r_inB, bI_ite]
  cases hb : inB a1 (nI 0) (nI nC - nI 1)
  · exact ⟨_, f, m, rfl, rfl, hI'⟩
  obtain ⟨j, j1, rfl⟩ := inB_h (by omega) hb
  have s3 : f 4 j = m 108 (14 + 3 * j) := g5 j (by omega)
  have e1 : 13 + 3 * j + 1 = 14 + 3 * j := by omega
  simp (disch := omega) only [lt_eq, bn_s, bn2_s, gd_t, nc, nI_add, n_mul, n_sub, ib_nI, up_hit, up_miss, n_le, n_lt, n_eq, n_eq0, n_lt0, n_0le, n_0lt, n_le0, zb_0, zb_1, if_pos, if_neg, ↓reduceIte, Nat.reduceAdd, Nat.reduceMul, Nat.reduceSub, cond_true, r_coil3, e1, s3]
  by_cases q1 : a2 < -9
  · have q2 : inB a2 (-9) (nI 9) = false := by unfold inB; rw [decide_eq_false (Int32.not_le.mpr q1)]; rfl
    simp only [q1, q2, if_true, cond_false]
    exact ⟨_, f, m, rfl, rfl, hI'⟩
  by_cases q3 : a2 ≤ nI 9
  · have q2 : inB a2 (-9) (nI 9) = true := by unfold inB; rw [decide_eq_true (Int32.not_lt.mp q1), decide_eq_true q3]; rfl
    simp only [q1, q2, q3, if_true, if_false, cond_true]
    refine ⟨_, _, _, rfl, rfl, hI'.w ?_ (fun k hk => by (simp (disch := omega) only [up_rn])) (lwSame.of (fun k hk => by (simp (disch := omega) only [up_rn]))) (fun k k1 _ _ _ _ _ => by (simp (disch := omega) only [up_rn])) (by (simp (disch := omega) only [up_miss]))⟩
    refine putCo (nc' := nC) h0 h2 h3 h4 h5 h6 h7 ⟨g1, by simp (disch := omega) only [lt_eq, bn_s, bn2_s, gd_t, nc, nI_add, n_mul, n_sub, ib_nI, up_hit, up_miss, n_le, n_lt, n_eq, n_eq0, n_lt0, n_0le, n_0lt, n_le0, zb_0, zb_1, if_pos, if_neg, ↓reduceIte, Nat.reduceAdd, Nat.reduceMul, Nat.reduceSub, g2], by simp (disch := omega) only [lt_eq, bn_s, bn2_s, gd_t, nc, nI_add, n_mul, n_sub, ib_nI, up_hit, up_miss, n_le, n_lt, n_eq, n_eq0, n_lt0, n_0le, n_0lt, n_le0, zb_0, zb_1, if_pos, if_neg, ↓reduceIte, Nat.reduceAdd, Nat.reduceMul, Nat.reduceSub, g3], fun i hi => ?_, fun i hi => ?_, fun i hi => ?_⟩ (Nat.le_refl _) (by (simp (disch := omega) only [up_rn])) (fun k k1 k2 k3 k4 k5 k6 => by (simp (disch := omega) only [up_rn])) (fun i hi => by (simp (disch := omega) only [up_miss])) (lwSame.of (fun k hk => by (simp (disch := omega) only [up_rn])))
    · obtain ⟨s, s1, s2, s3, s4⟩ := g4 i hi
      have s3 : f 3 i = nI s := s3
      exact ⟨s, s1, s2, by simp (disch := omega) only [lt_eq, bn_s, bn2_s, gd_t, nc, nI_add, n_mul, n_sub, ib_nI, up_hit, up_miss, n_le, n_lt, n_eq, n_eq0, n_lt0, n_0le, n_0lt, n_le0, zb_0, zb_1, if_pos, if_neg, ↓reduceIte, Nat.reduceAdd, Nat.reduceMul, Nat.reduceSub, s3], by simp (disch := omega) only [lt_eq, bn_s, bn2_s, gd_t, nc, nI_add, n_mul, n_sub, ib_nI, up_hit, up_miss, n_le, n_lt, n_eq, n_eq0, n_lt0, n_0le, n_0lt, n_le0, zb_0, zb_1, if_pos, if_neg, ↓reduceIte, Nat.reduceAdd, Nat.reduceMul, Nat.reduceSub, s4]⟩
    · by_cases w : i = j
      · subst w
        simp (disch := omega) only [lt_eq, bn_s, bn2_s, gd_t, nc, nI_add, n_mul, n_sub, ib_nI, up_hit, up_miss, n_le, n_lt, n_eq, n_eq0, n_lt0, n_0le, n_0lt, n_le0, zb_0, zb_1, if_pos, if_neg, ↓reduceIte, Nat.reduceAdd, Nat.reduceMul, Nat.reduceSub]
      · have s3 : f 4 i = m 108 (14 + 3 * i) := g5 i hi
        simp (disch := omega) only [lt_eq, bn_s, bn2_s, gd_t, nc, nI_add, n_mul, n_sub, ib_nI, up_hit, up_miss, n_le, n_lt, n_eq, n_eq0, n_lt0, n_0le, n_0lt, n_le0, zb_0, zb_1, if_pos, if_neg, ↓reduceIte, Nat.reduceAdd, Nat.reduceMul, Nat.reduceSub, s3]
    · rcases g6 i hi with ⟨s1, s2⟩ | ⟨j, s1, s2, s3, s4, s5⟩
      · have s1 : f 5 i = NONEi := s1
        exact Or.inl ⟨by simp (disch := omega) only [lt_eq, bn_s, bn2_s, gd_t, nc, nI_add, n_mul, n_sub, ib_nI, up_hit, up_miss, n_le, n_lt, n_eq, n_eq0, n_lt0, n_0le, n_0lt, n_le0, zb_0, zb_1, if_pos, if_neg, ↓reduceIte, Nat.reduceAdd, Nat.reduceMul, Nat.reduceSub, s1], by simp (disch := omega) only [lt_eq, bn_s, bn2_s, gd_t, nc, nI_add, n_mul, n_sub, ib_nI, up_hit, up_miss, n_le, n_lt, n_eq, n_eq0, n_lt0, n_0le, n_0lt, n_le0, zb_0, zb_1, if_pos, if_neg, ↓reduceIte, Nat.reduceAdd, Nat.reduceMul, Nat.reduceSub, s2]⟩
      · have s3 : f 5 i = nI j := s3
        exact Or.inr ⟨j, s1, s2, by simp (disch := omega) only [lt_eq, bn_s, bn2_s, gd_t, nc, nI_add, n_mul, n_sub, ib_nI, up_hit, up_miss, n_le, n_lt, n_eq, n_eq0, n_lt0, n_0le, n_0lt, n_le0, zb_0, zb_1, if_pos, if_neg, ↓reduceIte, Nat.reduceAdd, Nat.reduceMul, Nat.reduceSub, s3], by simp (disch := omega) only [lt_eq, bn_s, bn2_s, gd_t, nc, nI_add, n_mul, n_sub, ib_nI, up_hit, up_miss, n_le, n_lt, n_eq, n_eq0, n_lt0, n_0le, n_0lt, n_le0, zb_0, zb_1, if_pos, if_neg, ↓reduceIte, Nat.reduceAdd, Nat.reduceMul, Nat.reduceSub, s4], by simp (disch := omega) only [lt_eq, bn_s, bn2_s, gd_t, nc, nI_add, n_mul, n_sub, ib_nI, up_hit, up_miss, n_le, n_lt, n_eq, n_eq0, n_lt0, n_0le, n_0lt, n_le0, zb_0, zb_1, if_pos, if_neg, ↓reduceIte, Nat.reduceAdd, Nat.reduceMul, Nat.reduceSub, s5]⟩
  · have q2 : inB a2 (-9) (nI 9) = false := by unfold inB; rw [decide_eq_false q3, Bool.and_false]
    simp only [q1, q2, q3, if_false, cond_false]
    exact ⟨_, f, m, rfl, rfl, hI'⟩
theorem nI_none {j : Nat} (h : j < 2147483648) : (nI j = (-1000000005 : Int32)) = False := by
  refine eq_false (fun e => ?_)
  have := congrArg Int32.toInt e
  rw [nI_toInt h] at this
  have z3 : (-1000000005 : Int32).toInt = -1000000005 := rfl
  omega
theorem none_none : (NONEi = (-1000000005 : Int32)) = True := eq_true rfl
theorem m1_lt : ((-1 : Int32) < 0) = True := eq_true (by decide)
theorem m1_le : ((0 : Int32) ≤ -1) = False := eq_false (by decide)
theorem s_pair (hn : 2000 ≤ n) : SP_pair Inv n := by
  intro N f m a1 a2 hI
  have hI' := hI
  obtain ⟨hN, ⟨h0, nC, nw, ns, nk, ny, no, nt, h1, h2, h3, h4, h5, h6, h7⟩, hO⟩ := hI
  obtain ⟨g1, g2, g3, g4, g5, g6⟩ := h1
  have g2 : f 2 3 = nI nC := g2
  unfold fX11_pair fX12_pair
  simp (disch := omega) only [lt_eq, bn_s, bn2_s, gd_t, nc, nI_add, n_mul, n_sub, ib_nI, up_hit, up_miss, n_le, n_lt, n_eq, n_eq0, n_lt0, n_0le, n_0lt, n_le0, zb_0, zb_1, if_pos, if_neg, ↓reduceIte, Nat.reduceAdd, Nat.reduceMul, Nat.reduceSub, c_has1 g2, r_isCoil, g3, bI_ite]
  cases hb : inB a1 (nI 0) (nI nC - nI 1)
  · exact ⟨_, f, m, rfl, rfl, hI'⟩
  cases hb2 : inB a2 (nI 0) (nI nC - nI 1)
  · exact ⟨_, f, m, rfl, rfl, hI'⟩
  obtain ⟨j, j1, rfl⟩ := inB_h (by omega) hb
  obtain ⟨i, i1, rfl⟩ := inB_h (by omega) hb2
  have e1 : 13 + 3 * j + 2 = 15 + 3 * j := by omega
  have e2 : 13 + 3 * i + 2 = 15 + 3 * i := by omega
  simp (disch := omega) only [lt_eq, bn_s, bn2_s, gd_t, nc, nI_add, n_mul, n_sub, ib_nI, up_hit, up_miss, n_le, n_lt, n_eq, n_eq0, n_lt0, n_0le, n_0lt, n_le0, zb_0, zb_1, if_pos, if_neg, ↓reduceIte, Nat.reduceAdd, Nat.reduceMul, Nat.reduceSub, cond_true, r_coil3, e1, e2]
  by_cases w : j = i
  · simp only [w, if_true]
    exact ⟨_, f, m, rfl, rfl, hI'⟩
  simp only [w, if_false]
  rcases g6 j j1 with ⟨s1, s2⟩ | ⟨k, s1, s2, s3, s4, s5⟩
  · have s1 : f 5 j = NONEi := s1
    simp only [s1, s2, none_none, m1_le, if_true, if_false]
    rcases g6 i i1 with ⟨t1, t2⟩ | ⟨k, t1, t2, t3, t4, t5⟩
    · have t1 : f 5 i = NONEi := t1
      simp only [t1, t2, none_none, m1_lt, if_true, if_false]
      refine ⟨_, _, _, rfl, rfl, hI'.w ?_ (fun k hk => by (simp (disch := omega) only [up_rn])) (lwSame.of (fun k hk => by (simp (disch := omega) only [up_rn]))) (fun k k1 _ _ _ _ _ => by (simp (disch := omega) only [up_rn])) (by (simp (disch := omega) only [up_miss]))⟩
      refine putCo (nc' := nC) h0 h2 h3 h4 h5 h6 h7 ⟨g1, by simp (disch := omega) only [lt_eq, bn_s, bn2_s, gd_t, nc, nI_add, n_mul, n_sub, ib_nI, up_hit, up_miss, n_le, n_lt, n_eq, n_eq0, n_lt0, n_0le, n_0lt, n_le0, zb_0, zb_1, if_pos, if_neg, ↓reduceIte, Nat.reduceAdd, Nat.reduceMul, Nat.reduceSub, g2], by simp (disch := omega) only [lt_eq, bn_s, bn2_s, gd_t, nc, nI_add, n_mul, n_sub, ib_nI, up_hit, up_miss, n_le, n_lt, n_eq, n_eq0, n_lt0, n_0le, n_0lt, n_le0, zb_0, zb_1, if_pos, if_neg, ↓reduceIte, Nat.reduceAdd, Nat.reduceMul, Nat.reduceSub, g3], fun k hk => ?_, fun k hk => ?_, fun k hk => ?_⟩ (Nat.le_refl _) (by (simp (disch := omega) only [up_rn])) (fun k k1 k2 k3 k4 k5 k6 => by (simp (disch := omega) only [up_rn])) (fun i hi => by (simp (disch := omega) only [up_miss])) (lwSame.of (fun k hk => by (simp (disch := omega) only [up_rn])))
      · obtain ⟨s, s1, s2, s3, s4⟩ := g4 k hk
        have s3 : f 3 k = nI s := s3
        exact ⟨s, s1, s2, by simp (disch := omega) only [lt_eq, bn_s, bn2_s, gd_t, nc, nI_add, n_mul, n_sub, ib_nI, up_hit, up_miss, n_le, n_lt, n_eq, n_eq0, n_lt0, n_0le, n_0lt, n_le0, zb_0, zb_1, if_pos, if_neg, ↓reduceIte, Nat.reduceAdd, Nat.reduceMul, Nat.reduceSub, s3], by simp (disch := omega) only [lt_eq, bn_s, bn2_s, gd_t, nc, nI_add, n_mul, n_sub, ib_nI, up_hit, up_miss, n_le, n_lt, n_eq, n_eq0, n_lt0, n_0le, n_0lt, n_le0, zb_0, zb_1, if_pos, if_neg, ↓reduceIte, Nat.reduceAdd, Nat.reduceMul, Nat.reduceSub, s4]⟩
      · have s3 : f 4 k = m 108 (14 + 3 * k) := g5 k hk
        simp (disch := omega) only [lt_eq, bn_s, bn2_s, gd_t, nc, nI_add, n_mul, n_sub, ib_nI, up_hit, up_miss, n_le, n_lt, n_eq, n_eq0, n_lt0, n_0le, n_0lt, n_le0, zb_0, zb_1, if_pos, if_neg, ↓reduceIte, Nat.reduceAdd, Nat.reduceMul, Nat.reduceSub, s3]
      · by_cases w1 : k = i
        · subst w1
          exact Or.inr ⟨j, j1, w, by simp (disch := omega) only [lt_eq, bn_s, bn2_s, gd_t, nc, nI_add, n_mul, n_sub, ib_nI, up_hit, up_miss, n_le, n_lt, n_eq, n_eq0, n_lt0, n_0le, n_0lt, n_le0, zb_0, zb_1, if_pos, if_neg, ↓reduceIte, Nat.reduceAdd, Nat.reduceMul, Nat.reduceSub], by simp (disch := omega) only [lt_eq, bn_s, bn2_s, gd_t, nc, nI_add, n_mul, n_sub, ib_nI, up_hit, up_miss, n_le, n_lt, n_eq, n_eq0, n_lt0, n_0le, n_0lt, n_le0, zb_0, zb_1, if_pos, if_neg, ↓reduceIte, Nat.reduceAdd, Nat.reduceMul, Nat.reduceSub], by simp (disch := omega) only [lt_eq, bn_s, bn2_s, gd_t, nc, nI_add, n_mul, n_sub, ib_nI, up_hit, up_miss, n_le, n_lt, n_eq, n_eq0, n_lt0, n_0le, n_0lt, n_le0, zb_0, zb_1, if_pos, if_neg, ↓reduceIte, Nat.reduceAdd, Nat.reduceMul, Nat.reduceSub]⟩
        by_cases w2 : k = j
        · subst w2
          exact Or.inr ⟨i, i1, Ne.symm w, by simp (disch := omega) only [lt_eq, bn_s, bn2_s, gd_t, nc, nI_add, n_mul, n_sub, ib_nI, up_hit, up_miss, n_le, n_lt, n_eq, n_eq0, n_lt0, n_0le, n_0lt, n_le0, zb_0, zb_1, if_pos, if_neg, ↓reduceIte, Nat.reduceAdd, Nat.reduceMul, Nat.reduceSub], by simp (disch := omega) only [lt_eq, bn_s, bn2_s, gd_t, nc, nI_add, n_mul, n_sub, ib_nI, up_hit, up_miss, n_le, n_lt, n_eq, n_eq0, n_lt0, n_0le, n_0lt, n_le0, zb_0, zb_1, if_pos, if_neg, ↓reduceIte, Nat.reduceAdd, Nat.reduceMul, Nat.reduceSub], by simp (disch := omega) only [lt_eq, bn_s, bn2_s, gd_t, nc, nI_add, n_mul, n_sub, ib_nI, up_hit, up_miss, n_le, n_lt, n_eq, n_eq0, n_lt0, n_0le, n_0lt, n_le0, zb_0, zb_1, if_pos, if_neg, ↓reduceIte, Nat.reduceAdd, Nat.reduceMul, Nat.reduceSub]⟩
        · rcases g6 k hk with ⟨u1, u2⟩ | ⟨l, u1, u2, u3, u4, u5⟩
          · have u1 : f 5 k = NONEi := u1
            exact Or.inl ⟨by simp (disch := omega) only [lt_eq, bn_s, bn2_s, gd_t, nc, nI_add, n_mul, n_sub, ib_nI, up_hit, up_miss, n_le, n_lt, n_eq, n_eq0, n_lt0, n_0le, n_0lt, n_le0, zb_0, zb_1, if_pos, if_neg, ↓reduceIte, Nat.reduceAdd, Nat.reduceMul, Nat.reduceSub, u1], by simp (disch := omega) only [lt_eq, bn_s, bn2_s, gd_t, nc, nI_add, n_mul, n_sub, ib_nI, up_hit, up_miss, n_le, n_lt, n_eq, n_eq0, n_lt0, n_0le, n_0lt, n_le0, zb_0, zb_1, if_pos, if_neg, ↓reduceIte, Nat.reduceAdd, Nat.reduceMul, Nat.reduceSub, u2]⟩
          · have u3 : f 5 k = nI l := u3
            have l1 : l ≠ i := fun e => by
              subst e
              rw [t2] at u5
              have := congrArg Int32.toInt u5
              rw [nI_toInt (by omega)] at this
              have z3 : (-1 : Int32).toInt = -1 := rfl
              omega
            have l2 : l ≠ j := fun e => by
              subst e
              rw [s2] at u5
              have := congrArg Int32.toInt u5
              rw [nI_toInt (by omega)] at this
              have z3 : (-1 : Int32).toInt = -1 := rfl
              omega
            exact Or.inr ⟨l, u1, u2, by simp (disch := omega) only [lt_eq, bn_s, bn2_s, gd_t, nc, nI_add, n_mul, n_sub, ib_nI, up_hit, up_miss, n_le, n_lt, n_eq, n_eq0, n_lt0, n_0le, n_0lt, n_le0, zb_0, zb_1, if_pos, if_neg, ↓reduceIte, Nat.reduceAdd, Nat.reduceMul, Nat.reduceSub, u3], by simp (disch := omega) only [lt_eq, bn_s, bn2_s, gd_t, nc, nI_add, n_mul, n_sub, ib_nI, up_hit, up_miss, n_le, n_lt, n_eq, n_eq0, n_lt0, n_0le, n_0lt, n_le0, zb_0, zb_1, if_pos, if_neg, ↓reduceIte, Nat.reduceAdd, Nat.reduceMul, Nat.reduceSub, u4], by simp (disch := omega) only [lt_eq, bn_s, bn2_s, gd_t, nc, nI_add, n_mul, n_sub, ib_nI, up_hit, up_miss, n_le, n_lt, n_eq, n_eq0, n_lt0, n_0le, n_0lt, n_le0, zb_0, zb_1, if_pos, if_neg, ↓reduceIte, Nat.reduceAdd, Nat.reduceMul, Nat.reduceSub, u5]⟩
    · have t3 : f 5 i = nI k := t3
      simp (disch := omega) only [lt_eq, bn_s, bn2_s, gd_t, nc, nI_add, n_mul, n_sub, ib_nI, up_hit, up_miss, n_le, n_lt, n_eq, n_eq0, n_lt0, n_0le, n_0lt, n_le0, zb_0, zb_1, if_pos, if_neg, ↓reduceIte, Nat.reduceAdd, Nat.reduceMul, Nat.reduceSub, t3, t4, nI_none]
      exact ⟨_, f, m, rfl, rfl, hI'⟩
  · have s3 : f 5 j = nI k := s3
    simp (disch := omega) only [lt_eq, bn_s, bn2_s, gd_t, nc, nI_add, n_mul, n_sub, ib_nI, up_hit, up_miss, n_le, n_lt, n_eq, n_eq0, n_lt0, n_0le, n_0lt, n_le0, zb_0, zb_1, if_pos, if_neg, ↓reduceIte, Nat.reduceAdd, Nat.reduceMul, Nat.reduceSub, s3, s4, nI_none]
    exact ⟨_, f, m, rfl, rfl, hI'⟩
theorem none_in {k : Nat} (hk : k < 2147483648) : inB NONEi (nI 0) (nI k - nI 1) = false := by
  unfold inB
  rw [decide_eq_false (by decide), Bool.false_and]
theorem nI_inB {j k : Nat} (hj : j < k) (hk : k < 2147483648) : inB (nI j) (nI 0) (nI k - nI 1) = true := by
  unfold inB
  rw [decide_eq_true (show nI 0 ≤ nI j from nI_pos' (by omega)), n_sub (by omega), decide_eq_true (nI_le (by omega) (by omega))]; rfl
theorem nI_inB2 {j k : Nat} (hj : j < k) (hk : k < 2147483648) : inB (nI j) (nI 0) (nI (k - 1)) = true := by
  have := nI_inB hj hk
  rw [n_sub (by omega)] at this
  exact this
theorem s_part (hn : 2000 ≤ n) : SP_part Inv n := by
  intro N f m a1 hI
  have hI' := hI
  obtain ⟨hN, ⟨h0, nC, nw, ns, nk, ny, no, nt, h1, h2, h3, h4, h5, h6, h7⟩, hO⟩ := hI
  obtain ⟨g1, g2, g3, g4, g5, g6⟩ := h1
  have g2 : f 2 3 = nI nC := g2
  unfold fX11_part fX12_part
  simp (disch := omega) only [lt_eq, bn_s, bn2_s, gd_t, nc, nI_add, n_mul, n_sub, ib_nI, up_hit, up_miss, n_le, n_lt, n_eq, n_eq0, n_lt0, n_0le, n_0lt, n_le0, zb_0, zb_1, if_pos, if_neg, ↓reduceIte, Nat.reduceAdd, Nat.reduceMul, Nat.reduceSub, c_has1 g2, r_isCoil, g3, bI_ite]
  cases hb : inB a1 (nI 0) (nI nC - nI 1)
  · exact ⟨_, f, m, rfl, rfl, hI'⟩
  obtain ⟨j, j1, rfl⟩ := inB_h (by omega) hb
  have e1 : 13 + 3 * j + 2 = 15 + 3 * j := by omega
  simp (disch := omega) only [lt_eq, bn_s, bn2_s, gd_t, nc, nI_add, n_mul, n_sub, ib_nI, up_hit, up_miss, n_le, n_lt, n_eq, n_eq0, n_lt0, n_0le, n_0lt, n_le0, zb_0, zb_1, if_pos, if_neg, ↓reduceIte, Nat.reduceAdd, Nat.reduceMul, Nat.reduceSub, cond_true, r_coil3, e1]
  rcases g6 j j1 with ⟨s1, s2⟩ | ⟨i, s1, s2, s3, s4, s5⟩
  · have s1 : f 5 j = NONEi := s1
    simp only [s1, s2, none_in (show nC < 2147483648 by omega), m1_le, if_false, cond_false]
    exact ⟨_, f, m, rfl, rfl, hI'⟩
  · have s3 : f 5 j = nI i := s3
    have e2 : 13 + 3 * i + 2 = 15 + 3 * i := by omega
    simp (disch := omega) only [lt_eq, bn_s, bn2_s, gd_t, nc, nI_add, n_mul, n_sub, ib_nI, up_hit, up_miss, n_le, n_lt, n_eq, n_eq0, n_lt0, n_0le, n_0lt, n_le0, zb_0, zb_1, if_pos, if_neg, ↓reduceIte, Nat.reduceAdd, Nat.reduceMul, Nat.reduceSub, s3, s4, nI_inB2 s1 (show nC < 2147483648 by omega), cond_true, e2]
    refine ⟨_, _, _, rfl, rfl, hI'.w ?_ (fun k hk => by (simp (disch := omega) only [up_rn])) (lwSame.of (fun k hk => by (simp (disch := omega) only [up_rn]))) (fun k k1 _ _ _ _ _ => by (simp (disch := omega) only [up_rn])) (by (simp (disch := omega) only [up_miss]))⟩
    refine putCo (nc' := nC) h0 h2 h3 h4 h5 h6 h7 ⟨g1, by simp (disch := omega) only [lt_eq, bn_s, bn2_s, gd_t, nc, nI_add, n_mul, n_sub, ib_nI, up_hit, up_miss, n_le, n_lt, n_eq, n_eq0, n_lt0, n_0le, n_0lt, n_le0, zb_0, zb_1, if_pos, if_neg, ↓reduceIte, Nat.reduceAdd, Nat.reduceMul, Nat.reduceSub, g2], by simp (disch := omega) only [lt_eq, bn_s, bn2_s, gd_t, nc, nI_add, n_mul, n_sub, ib_nI, up_hit, up_miss, n_le, n_lt, n_eq, n_eq0, n_lt0, n_0le, n_0lt, n_le0, zb_0, zb_1, if_pos, if_neg, ↓reduceIte, Nat.reduceAdd, Nat.reduceMul, Nat.reduceSub, g3], fun k hk => ?_, fun k hk => ?_, fun k hk => ?_⟩ (Nat.le_refl _) (by (simp (disch := omega) only [up_rn])) (fun k k1 k2 k3 k4 k5 k6 => by (simp (disch := omega) only [up_rn])) (fun i hi => by (simp (disch := omega) only [up_miss])) (lwSame.of (fun k hk => by (simp (disch := omega) only [up_rn])))
    · obtain ⟨s, s1, s2, s3, s4⟩ := g4 k hk
      have s3 : f 3 k = nI s := s3
      exact ⟨s, s1, s2, by simp (disch := omega) only [lt_eq, bn_s, bn2_s, gd_t, nc, nI_add, n_mul, n_sub, ib_nI, up_hit, up_miss, n_le, n_lt, n_eq, n_eq0, n_lt0, n_0le, n_0lt, n_le0, zb_0, zb_1, if_pos, if_neg, ↓reduceIte, Nat.reduceAdd, Nat.reduceMul, Nat.reduceSub, s3], by simp (disch := omega) only [lt_eq, bn_s, bn2_s, gd_t, nc, nI_add, n_mul, n_sub, ib_nI, up_hit, up_miss, n_le, n_lt, n_eq, n_eq0, n_lt0, n_0le, n_0lt, n_le0, zb_0, zb_1, if_pos, if_neg, ↓reduceIte, Nat.reduceAdd, Nat.reduceMul, Nat.reduceSub, s4]⟩
    · have s3 : f 4 k = m 108 (14 + 3 * k) := g5 k hk
      simp (disch := omega) only [lt_eq, bn_s, bn2_s, gd_t, nc, nI_add, n_mul, n_sub, ib_nI, up_hit, up_miss, n_le, n_lt, n_eq, n_eq0, n_lt0, n_0le, n_0lt, n_le0, zb_0, zb_1, if_pos, if_neg, ↓reduceIte, Nat.reduceAdd, Nat.reduceMul, Nat.reduceSub, s3]
    · by_cases w1 : k = i
      · subst w1
        exact Or.inl ⟨by simp (disch := omega) only [lt_eq, bn_s, bn2_s, gd_t, nc, nI_add, n_mul, n_sub, ib_nI, up_hit, up_miss, n_le, n_lt, n_eq, n_eq0, n_lt0, n_0le, n_0lt, n_le0, zb_0, zb_1, if_pos, if_neg, ↓reduceIte, Nat.reduceAdd, Nat.reduceMul, Nat.reduceSub]; rfl, by simp (disch := omega) only [lt_eq, bn_s, bn2_s, gd_t, nc, nI_add, n_mul, n_sub, ib_nI, up_hit, up_miss, n_le, n_lt, n_eq, n_eq0, n_lt0, n_0le, n_0lt, n_le0, zb_0, zb_1, if_pos, if_neg, ↓reduceIte, Nat.reduceAdd, Nat.reduceMul, Nat.reduceSub]⟩
      by_cases w2 : k = j
      · subst w2
        exact Or.inl ⟨by simp (disch := omega) only [lt_eq, bn_s, bn2_s, gd_t, nc, nI_add, n_mul, n_sub, ib_nI, up_hit, up_miss, n_le, n_lt, n_eq, n_eq0, n_lt0, n_0le, n_0lt, n_le0, zb_0, zb_1, if_pos, if_neg, ↓reduceIte, Nat.reduceAdd, Nat.reduceMul, Nat.reduceSub]; rfl, by simp (disch := omega) only [lt_eq, bn_s, bn2_s, gd_t, nc, nI_add, n_mul, n_sub, ib_nI, up_hit, up_miss, n_le, n_lt, n_eq, n_eq0, n_lt0, n_0le, n_0lt, n_le0, zb_0, zb_1, if_pos, if_neg, ↓reduceIte, Nat.reduceAdd, Nat.reduceMul, Nat.reduceSub]⟩
      · rcases g6 k hk with ⟨u1, u2⟩ | ⟨l, u1, u2, u3, u4, u5⟩
        · have u1 : f 5 k = NONEi := u1
          exact Or.inl ⟨by simp (disch := omega) only [lt_eq, bn_s, bn2_s, gd_t, nc, nI_add, n_mul, n_sub, ib_nI, up_hit, up_miss, n_le, n_lt, n_eq, n_eq0, n_lt0, n_0le, n_0lt, n_le0, zb_0, zb_1, if_pos, if_neg, ↓reduceIte, Nat.reduceAdd, Nat.reduceMul, Nat.reduceSub, u1], by simp (disch := omega) only [lt_eq, bn_s, bn2_s, gd_t, nc, nI_add, n_mul, n_sub, ib_nI, up_hit, up_miss, n_le, n_lt, n_eq, n_eq0, n_lt0, n_0le, n_0lt, n_le0, zb_0, zb_1, if_pos, if_neg, ↓reduceIte, Nat.reduceAdd, Nat.reduceMul, Nat.reduceSub, u2]⟩
        · have u3 : f 5 k = nI l := u3
          have l1 : l ≠ i := fun e => by
            subst e
            rw [s5, n_eq (by omega) (by omega)] at u5
            omega
          have l2 : l ≠ j := fun e => by
            subst e
            rw [s4, n_eq (by omega) (by omega)] at u5
            omega
          exact Or.inr ⟨l, u1, u2, by simp (disch := omega) only [lt_eq, bn_s, bn2_s, gd_t, nc, nI_add, n_mul, n_sub, ib_nI, up_hit, up_miss, n_le, n_lt, n_eq, n_eq0, n_lt0, n_0le, n_0lt, n_le0, zb_0, zb_1, if_pos, if_neg, ↓reduceIte, Nat.reduceAdd, Nat.reduceMul, Nat.reduceSub, u3], by simp (disch := omega) only [lt_eq, bn_s, bn2_s, gd_t, nc, nI_add, n_mul, n_sub, ib_nI, up_hit, up_miss, n_le, n_lt, n_eq, n_eq0, n_lt0, n_0le, n_0lt, n_le0, zb_0, zb_1, if_pos, if_neg, ↓reduceIte, Nat.reduceAdd, Nat.reduceMul, Nat.reduceSub, u4], by simp (disch := omega) only [lt_eq, bn_s, bn2_s, gd_t, nc, nI_add, n_mul, n_sub, ib_nI, up_hit, up_miss, n_le, n_lt, n_eq, n_eq0, n_lt0, n_0le, n_0lt, n_le0, zb_0, zb_1, if_pos, if_neg, ↓reduceIte, Nat.reduceAdd, Nat.reduceMul, Nat.reduceSub, u5]⟩
end K1
