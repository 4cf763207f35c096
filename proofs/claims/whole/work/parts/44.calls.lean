section K2
variable {n : Nat}
theorem m9 {x : Int32} {lo hi : Int32} : inB x lo hi = true → lo ≤ x ∧ x ≤ hi := by
  intro h
  unfold inB at h
  rw [Bool.and_eq_true, decide_eq_true_eq, decide_eq_true_eq] at h
  exact h
theorem hOK_of {x : Int32} (h : inB x (-999) (nI 999) = true) : hOK x := by
  obtain ⟨h1, h2⟩ := m9 h
  rw [le_in] at h1 h2
  have z1 : (-999 : Int32).toInt = -999 := rfl
  have z2 : (nI 999).toInt = 999 := rfl
  exact ⟨by omega, by omega⟩
theorem s_watch (hn : 2000 ≤ n) : SP_watch Inv n := by
  intro N f m a1 a2 a3 hI
  have hI' := hI
  obtain ⟨hN, ⟨h0, nC, nw, ns, nk, ny, no, nt, h1, h2, h3, h4, h5, h6, h7⟩, hO⟩ := hI
  have hc2 : f 2 3 = nI nC := h1.2.1
  have hc3 : m 108 6 = nI nC := h1.2.2.1
  have hc6 := h1.1
  obtain ⟨g1, g2, g3, g4, g5, g6, g7⟩ := h2
  have g2 : f 6 4 = nI nw := g2
  have g4 : f 6 3 = nI 20 := g4
  unfold fX11_watch fX12_watch
  rw [c_isSpan]
  simp (disch := omega) only [lt_eq, bn_s, bn2_s, gd_t, nc, nI_add, n_mul, n_sub, ib_nI, up_hit, up_miss, n_le, n_lt, n_eq, n_eq0, n_lt0, n_0le, n_0lt, n_le0, zb_0, zb_1, if_pos, if_neg, ↓reduceIte, Nat.reduceAdd, Nat.reduceMul, Nat.reduceSub, c_has1 hc2, r_isCoil, hc3, bI_ite]
  cases hb : inB a1 (nI 0) (nI nC - nI 1)
  · exact ⟨_, f, m, rfl, rfl, hI'⟩
  obtain ⟨j, j1, rfl⟩ := inB_h (by omega) hb
  simp only [cond_true]
  have hsp : ∃ b, fX12_isSpan n a2 a3 = some (bI b) := by
    unfold fX12_isSpan
    rw [r_isDay, r_isDay]
    simp (disch := omega) only [lt_eq, bn_s, bn2_s, gd_t, nc, nI_add, n_mul, n_sub, ib_nI, up_hit, up_miss, n_le, n_lt, n_eq, n_eq0, n_lt0, n_0le, n_0lt, n_le0, zb_0, zb_1, if_pos, if_neg, ↓reduceIte, Nat.reduceAdd, Nat.reduceMul, Nat.reduceSub, bI_ite]
    cases inB a2 (nI 0) (nI 1999)
    · exact ⟨false, rfl⟩
    cases inB a3 (nI 0) (nI 1999)
    · exact ⟨false, rfl⟩
    simp only [cond_true]
    split
    · exact ⟨false, rfl⟩
    · exact ⟨true, rfl⟩
  obtain ⟨b, hb2⟩ := hsp
  rw [hb2]
  simp (disch := omega) only [lt_eq, bn_s, bn2_s, gd_t, nc, nI_add, n_mul, n_sub, ib_nI, up_hit, up_miss, n_le, n_lt, n_eq, n_eq0, n_lt0, n_0le, n_0lt, n_le0, zb_0, zb_1, if_pos, if_neg, ↓reduceIte, Nat.reduceAdd, Nat.reduceMul, Nat.reduceSub, bI_ite]
  cases b
  · exact ⟨_, f, m, rfl, rfl, hI'⟩
  simp only [cond_true]
  by_cases q : nw = 20
  · simp (disch := omega) only [lt_eq, bn_s, bn2_s, gd_t, nc, nI_add, n_mul, n_sub, ib_nI, up_hit, up_miss, n_le, n_lt, n_eq, n_eq0, n_lt0, n_0le, n_0lt, n_le0, zb_0, zb_1, if_pos, if_neg, ↓reduceIte, Nat.reduceAdd, Nat.reduceMul, Nat.reduceSub, q, g2, g3, g4, fX7_add]
    exact ⟨_, f, m, rfl, rfl, hI'⟩
  · have e1 : 31 + 3 * nw + 1 = 32 + 3 * nw := by omega
    have e2 : 31 + 3 * nw + 2 = 33 + 3 * nw := by omega
    simp (disch := omega) only [lt_eq, bn_s, bn2_s, gd_t, nc, nI_add, n_mul, n_sub, ib_nI, up_hit, up_miss, n_le, n_lt, n_eq, n_eq0, n_lt0, n_0le, n_0lt, n_le0, zb_0, zb_1, if_pos, if_neg, ↓reduceIte, Nat.reduceAdd, Nat.reduceMul, Nat.reduceSub, q, e1, e2, g2, g3, g4, fX7_add]
    refine ⟨_, _, _, rfl, rfl, hI'.w ?_ (fun k hk => by (simp (disch := omega) only [up_rn])) (lwSame.of (fun k hk => by (simp (disch := omega) only [up_rn]))) (fun k k1 _ _ _ _ _ => by (simp (disch := omega) only [up_rn])) (by (simp (disch := omega) only [up_miss]))⟩
    refine putWa (nw' := nw + 1) h0 h1 h3 h4 h5 h6 h7 ⟨by omega, up_hit, up_hit, by simp (disch := omega) only [lt_eq, bn_s, bn2_s, gd_t, nc, nI_add, n_mul, n_sub, ib_nI, up_hit, up_miss, n_le, n_lt, n_eq, n_eq0, n_lt0, n_0le, n_0lt, n_le0, zb_0, zb_1, if_pos, if_neg, ↓reduceIte, Nat.reduceAdd, Nat.reduceMul, Nat.reduceSub, g4], fun i hi => ?_, fun i hi => ?_, fun i hi => ?_⟩ (by (simp (disch := omega) only [up_rn])) (fun k k1 k2 k3 k4 k5 k6 => by (simp (disch := omega) only [up_rn])) (fun i hi => by (simp (disch := omega) only [up_miss])) (lwSame.of (fun k hk => by (simp (disch := omega) only [up_rn])))
    · by_cases w : i = nw
      · subst w
        exact ⟨j, j1, by simp (disch := omega) only [lt_eq, bn_s, bn2_s, gd_t, nc, nI_add, n_mul, n_sub, ib_nI, up_hit, up_miss, n_le, n_lt, n_eq, n_eq0, n_lt0, n_0le, n_0lt, n_le0, zb_0, zb_1, if_pos, if_neg, ↓reduceIte, Nat.reduceAdd, Nat.reduceMul, Nat.reduceSub], by simp (disch := omega) only [lt_eq, bn_s, bn2_s, gd_t, nc, nI_add, n_mul, n_sub, ib_nI, up_hit, up_miss, n_le, n_lt, n_eq, n_eq0, n_lt0, n_0le, n_0lt, n_le0, zb_0, zb_1, if_pos, if_neg, ↓reduceIte, Nat.reduceAdd, Nat.reduceMul, Nat.reduceSub]⟩
      · obtain ⟨s, s1, s3, s4⟩ := g5 i (by omega)
        have s3 : f 7 i = nI s := s3
        exact ⟨s, s1, by simp (disch := omega) only [lt_eq, bn_s, bn2_s, gd_t, nc, nI_add, n_mul, n_sub, ib_nI, up_hit, up_miss, n_le, n_lt, n_eq, n_eq0, n_lt0, n_0le, n_0lt, n_le0, zb_0, zb_1, if_pos, if_neg, ↓reduceIte, Nat.reduceAdd, Nat.reduceMul, Nat.reduceSub, s3], by simp (disch := omega) only [lt_eq, bn_s, bn2_s, gd_t, nc, nI_add, n_mul, n_sub, ib_nI, up_hit, up_miss, n_le, n_lt, n_eq, n_eq0, n_lt0, n_0le, n_0lt, n_le0, zb_0, zb_1, if_pos, if_neg, ↓reduceIte, Nat.reduceAdd, Nat.reduceMul, Nat.reduceSub, s4]⟩
    · by_cases w : i = nw
      · subst w
        simp (disch := omega) only [lt_eq, bn_s, bn2_s, gd_t, nc, nI_add, n_mul, n_sub, ib_nI, up_hit, up_miss, n_le, n_lt, n_eq, n_eq0, n_lt0, n_0le, n_0lt, n_le0, zb_0, zb_1, if_pos, if_neg, ↓reduceIte, Nat.reduceAdd, Nat.reduceMul, Nat.reduceSub]
      · have s3 : f 8 i = m 108 (32 + 3 * i) := g6 i (by omega)
        simp (disch := omega) only [lt_eq, bn_s, bn2_s, gd_t, nc, nI_add, n_mul, n_sub, ib_nI, up_hit, up_miss, n_le, n_lt, n_eq, n_eq0, n_lt0, n_0le, n_0lt, n_le0, zb_0, zb_1, if_pos, if_neg, ↓reduceIte, Nat.reduceAdd, Nat.reduceMul, Nat.reduceSub, s3]
    · by_cases w : i = nw
      · subst w
        simp (disch := omega) only [lt_eq, bn_s, bn2_s, gd_t, nc, nI_add, n_mul, n_sub, ib_nI, up_hit, up_miss, n_le, n_lt, n_eq, n_eq0, n_lt0, n_0le, n_0lt, n_le0, zb_0, zb_1, if_pos, if_neg, ↓reduceIte, Nat.reduceAdd, Nat.reduceMul, Nat.reduceSub]
      · have s3 : f 9 i = m 108 (33 + 3 * i) := g7 i (by omega)
        simp (disch := omega) only [lt_eq, bn_s, bn2_s, gd_t, nc, nI_add, n_mul, n_sub, ib_nI, up_hit, up_miss, n_le, n_lt, n_eq, n_eq0, n_lt0, n_0le, n_0lt, n_le0, zb_0, zb_1, if_pos, if_neg, ↓reduceIte, Nat.reduceAdd, Nat.reduceMul, Nat.reduceSub, s3]
theorem s_key (hn : 2000 ≤ n) : SP_key Inv n := by
  intro N f m a1 a2 hI
  have hI' := hI
  obtain ⟨hN, ⟨h0, nC, nw, ns, nk, ny, no, nt, h1, h2, h3, h4, h5, h6, h7⟩, hO⟩ := hI
  obtain ⟨g1, g2, g3, g4, g5, g6⟩ := h5
  have g2 : f 18 4 = nI ny := g2
  have g4 : f 18 3 = nI 10 := g4
  unfold fX11_key fX12_key
  rw [c_isSpan]
  have hsp : ∃ b, fX12_isSpan n a1 a2 = some (bI b) := by
    unfold fX12_isSpan
    rw [r_isDay, r_isDay]
    simp (disch := omega) only [lt_eq, bn_s, bn2_s, gd_t, nc, nI_add, n_mul, n_sub, ib_nI, up_hit, up_miss, n_le, n_lt, n_eq, n_eq0, n_lt0, n_0le, n_0lt, n_le0, zb_0, zb_1, if_pos, if_neg, ↓reduceIte, Nat.reduceAdd, Nat.reduceMul, Nat.reduceSub, bI_ite]
    cases inB a1 (nI 0) (nI 1999)
    · exact ⟨false, rfl⟩
    cases inB a2 (nI 0) (nI 1999)
    · exact ⟨false, rfl⟩
    simp only [cond_true]
    split
    · exact ⟨false, rfl⟩
    · exact ⟨true, rfl⟩
  obtain ⟨b, hb2⟩ := hsp
  rw [hb2]
  simp (disch := omega) only [lt_eq, bn_s, bn2_s, gd_t, nc, nI_add, n_mul, n_sub, ib_nI, up_hit, up_miss, n_le, n_lt, n_eq, n_eq0, n_lt0, n_0le, n_0lt, n_le0, zb_0, zb_1, if_pos, if_neg, ↓reduceIte, Nat.reduceAdd, Nat.reduceMul, Nat.reduceSub, bI_ite]
  cases b
  · exact ⟨_, f, m, rfl, rfl, hI'⟩
  simp only [cond_true]
  by_cases q : ny = 10
  · simp (disch := omega) only [lt_eq, bn_s, bn2_s, gd_t, nc, nI_add, n_mul, n_sub, ib_nI, up_hit, up_miss, n_le, n_lt, n_eq, n_eq0, n_lt0, n_0le, n_0lt, n_le0, zb_0, zb_1, if_pos, if_neg, ↓reduceIte, Nat.reduceAdd, Nat.reduceMul, Nat.reduceSub, q, g2, g3, g4, fX7_add]
    exact ⟨_, f, m, rfl, rfl, hI'⟩
  · have e1 : 311 + 2 * ny + 1 = 312 + 2 * ny := by omega
    simp (disch := omega) only [lt_eq, bn_s, bn2_s, gd_t, nc, nI_add, n_mul, n_sub, ib_nI, up_hit, up_miss, n_le, n_lt, n_eq, n_eq0, n_lt0, n_0le, n_0lt, n_le0, zb_0, zb_1, if_pos, if_neg, ↓reduceIte, Nat.reduceAdd, Nat.reduceMul, Nat.reduceSub, q, e1, g2, g3, g4, fX7_add]
    refine ⟨_, _, _, rfl, rfl, hI'.w ?_ (fun k hk => by (simp (disch := omega) only [up_rn])) (lwSame.of (fun k hk => by (simp (disch := omega) only [up_rn]))) (fun k k1 _ _ _ _ _ => by (simp (disch := omega) only [up_rn])) (by (simp (disch := omega) only [up_miss]))⟩
    refine putKy (ny' := ny + 1) h0 h1 h2 h3 h4 h6 h7 ⟨by omega, up_hit, up_hit, by simp (disch := omega) only [lt_eq, bn_s, bn2_s, gd_t, nc, nI_add, n_mul, n_sub, ib_nI, up_hit, up_miss, n_le, n_lt, n_eq, n_eq0, n_lt0, n_0le, n_0lt, n_le0, zb_0, zb_1, if_pos, if_neg, ↓reduceIte, Nat.reduceAdd, Nat.reduceMul, Nat.reduceSub, g4], fun i hi => ?_, fun i hi => ?_⟩ (by (simp (disch := omega) only [up_rn])) (fun k k1 k2 k3 k4 k5 k6 => by (simp (disch := omega) only [up_rn])) (fun i hi => by (simp (disch := omega) only [up_miss])) (lwSame.of (fun k hk => by (simp (disch := omega) only [up_rn])))
    · by_cases w : i = ny
      · subst w
        simp (disch := omega) only [lt_eq, bn_s, bn2_s, gd_t, nc, nI_add, n_mul, n_sub, ib_nI, up_hit, up_miss, n_le, n_lt, n_eq, n_eq0, n_lt0, n_0le, n_0lt, n_le0, zb_0, zb_1, if_pos, if_neg, ↓reduceIte, Nat.reduceAdd, Nat.reduceMul, Nat.reduceSub]
      · have s3 : f 20 i = m 108 (311 + 2 * i) := g5 i (by omega)
        simp (disch := omega) only [lt_eq, bn_s, bn2_s, gd_t, nc, nI_add, n_mul, n_sub, ib_nI, up_hit, up_miss, n_le, n_lt, n_eq, n_eq0, n_lt0, n_0le, n_0lt, n_le0, zb_0, zb_1, if_pos, if_neg, ↓reduceIte, Nat.reduceAdd, Nat.reduceMul, Nat.reduceSub, s3]
    · by_cases w : i = ny
      · subst w
        simp (disch := omega) only [lt_eq, bn_s, bn2_s, gd_t, nc, nI_add, n_mul, n_sub, ib_nI, up_hit, up_miss, n_le, n_lt, n_eq, n_eq0, n_lt0, n_0le, n_0lt, n_le0, zb_0, zb_1, if_pos, if_neg, ↓reduceIte, Nat.reduceAdd, Nat.reduceMul, Nat.reduceSub]
      · have s3 : f 21 i = m 108 (312 + 2 * i) := g6 i (by omega)
        simp (disch := omega) only [lt_eq, bn_s, bn2_s, gd_t, nc, nI_add, n_mul, n_sub, ib_nI, up_hit, up_miss, n_le, n_lt, n_eq, n_eq0, n_lt0, n_0le, n_0lt, n_le0, zb_0, zb_1, if_pos, if_neg, ↓reduceIte, Nat.reduceAdd, Nat.reduceMul, Nat.reduceSub, s3]
theorem s_offer (hn : 2000 ≤ n) : SP_offer Inv n := by
  intro N f m a1 a2 hI
  have hI' := hI
  obtain ⟨hN, ⟨h0, nC, nw, ns, nk, ny, no, nt, h1, h2, h3, h4, h5, h6, h7⟩, hO⟩ := hI
  obtain ⟨g1, g2, g3, g4, g5⟩ := h6
  have g2 : f 22 2 = nI no := g2
  unfold fX11_offer fX12_offer
  simp (disch := omega) only [lt_eq, bn_s, bn2_s, gd_t, nc, nI_add, n_mul, n_sub, ib_nI, up_hit, up_miss, n_le, n_lt, n_eq, n_eq0, n_lt0, n_0le, n_0lt, n_le0, zb_0, zb_1, if_pos, if_neg, ↓reduceIte, Nat.reduceAdd, Nat.reduceMul, Nat.reduceSub, c_isSize, r_inB, bI_ite]
  cases hb : inB a1 (nI 1) (nI 9)
  · exact ⟨_, f, m, rfl, rfl, hI'⟩
  obtain ⟨j, j1, j2, rfl⟩ := inB_r (by omega) (by omega) hb
  simp only [cond_true]
  have hp : ∀ (x : Option (Int32 × Mm)) y, (if a2 < 0 then y else if nI 999 < a2 then y else x) = bif inB a2 (nI 0) (nI 999) then x else y := by
    intro x y
    unfold inB
    by_cases q1 : a2 < 0
    · rw [if_pos q1, decide_eq_false (show ¬ nI 0 ≤ a2 from Int32.not_le.mpr q1)]; rfl
    · rw [if_neg q1, decide_eq_true (show nI 0 ≤ a2 from Int32.not_lt.mp q1)]
      by_cases q2 : nI 999 < a2
      · rw [if_pos q2, decide_eq_false (Int32.not_le.mpr q2)]; rfl
      · rw [if_neg q2, decide_eq_true (Int32.not_lt.mp q2)]; rfl
  rw [hp]
  cases hb2 : inB a2 (nI 0) (nI 999)
  · exact ⟨_, f, m, rfl, rfl, hI'⟩
  obtain ⟨p, p1, p2, rfl⟩ := inB_r (by omega) (by omega) hb2
  simp only [cond_true]
  by_cases q : no = 8
  · simp (disch := omega) only [lt_eq, bn_s, bn2_s, gd_t, nc, nI_add, n_mul, n_sub, ib_nI, up_hit, up_miss, n_le, n_lt, n_eq, n_eq0, n_lt0, n_0le, n_0lt, n_le0, zb_0, zb_1, if_pos, if_neg, ↓reduceIte, Nat.reduceAdd, Nat.reduceMul, Nat.reduceSub, q, g2, g3, fX4_add]
    exact ⟨_, f, m, rfl, rfl, hI'⟩
  · have e1 : 331 + 2 * no + 1 = 332 + 2 * no := by omega
    simp (disch := omega) only [lt_eq, bn_s, bn2_s, gd_t, nc, nI_add, n_mul, n_sub, ib_nI, up_hit, up_miss, n_le, n_lt, n_eq, n_eq0, n_lt0, n_0le, n_0lt, n_le0, zb_0, zb_1, if_pos, if_neg, ↓reduceIte, Nat.reduceAdd, Nat.reduceMul, Nat.reduceSub, q, e1, g2, g3, fX4_add]
    refine ⟨_, _, _, rfl, rfl, hI'.w ?_ (fun k hk => by (simp (disch := omega) only [up_rn])) (lwSame.of (fun k hk => by (simp (disch := omega) only [up_rn]))) (fun k k1 _ _ _ _ _ => by (simp (disch := omega) only [up_rn])) (by (simp (disch := omega) only [up_miss]))⟩
    refine putOf (no' := no + 1) h0 h1 h2 h3 h4 h5 h7 ⟨by omega, up_hit, up_hit, fun i hi => ?_, fun i hi => ?_⟩ (by (simp (disch := omega) only [up_rn])) (fun k k1 k2 k3 k4 k5 => by (simp (disch := omega) only [up_rn])) (fun i hi => by (simp (disch := omega) only [up_miss])) (lwSame.of (fun k hk => by (simp (disch := omega) only [up_rn])))
    · by_cases w : i = no
      · subst w
        exact ⟨j, j1, j2, by simp (disch := omega) only [lt_eq, bn_s, bn2_s, gd_t, nc, nI_add, n_mul, n_sub, ib_nI, up_hit, up_miss, n_le, n_lt, n_eq, n_eq0, n_lt0, n_0le, n_0lt, n_le0, zb_0, zb_1, if_pos, if_neg, ↓reduceIte, Nat.reduceAdd, Nat.reduceMul, Nat.reduceSub], by simp (disch := omega) only [lt_eq, bn_s, bn2_s, gd_t, nc, nI_add, n_mul, n_sub, ib_nI, up_hit, up_miss, n_le, n_lt, n_eq, n_eq0, n_lt0, n_0le, n_0lt, n_le0, zb_0, zb_1, if_pos, if_neg, ↓reduceIte, Nat.reduceAdd, Nat.reduceMul, Nat.reduceSub]⟩
      · obtain ⟨s, s1, s2, s3, s4⟩ := g4 i (by omega)
        have s3 : f 23 i = nI s := s3
        exact ⟨s, s1, s2, by simp (disch := omega) only [lt_eq, bn_s, bn2_s, gd_t, nc, nI_add, n_mul, n_sub, ib_nI, up_hit, up_miss, n_le, n_lt, n_eq, n_eq0, n_lt0, n_0le, n_0lt, n_le0, zb_0, zb_1, if_pos, if_neg, ↓reduceIte, Nat.reduceAdd, Nat.reduceMul, Nat.reduceSub, s3], by simp (disch := omega) only [lt_eq, bn_s, bn2_s, gd_t, nc, nI_add, n_mul, n_sub, ib_nI, up_hit, up_miss, n_le, n_lt, n_eq, n_eq0, n_lt0, n_0le, n_0lt, n_le0, zb_0, zb_1, if_pos, if_neg, ↓reduceIte, Nat.reduceAdd, Nat.reduceMul, Nat.reduceSub, s4]⟩
    · by_cases w : i = no
      · subst w
        exact ⟨p, p2, by simp (disch := omega) only [lt_eq, bn_s, bn2_s, gd_t, nc, nI_add, n_mul, n_sub, ib_nI, up_hit, up_miss, n_le, n_lt, n_eq, n_eq0, n_lt0, n_0le, n_0lt, n_le0, zb_0, zb_1, if_pos, if_neg, ↓reduceIte, Nat.reduceAdd, Nat.reduceMul, Nat.reduceSub], by simp (disch := omega) only [lt_eq, bn_s, bn2_s, gd_t, nc, nI_add, n_mul, n_sub, ib_nI, up_hit, up_miss, n_le, n_lt, n_eq, n_eq0, n_lt0, n_0le, n_0lt, n_le0, zb_0, zb_1, if_pos, if_neg, ↓reduceIte, Nat.reduceAdd, Nat.reduceMul, Nat.reduceSub]⟩
      · obtain ⟨s, s1, s3, s4⟩ := g5 i (by omega)
        have s3 : f 24 i = nI s := s3
        exact ⟨s, s1, by simp (disch := omega) only [lt_eq, bn_s, bn2_s, gd_t, nc, nI_add, n_mul, n_sub, ib_nI, up_hit, up_miss, n_le, n_lt, n_eq, n_eq0, n_lt0, n_0le, n_0lt, n_le0, zb_0, zb_1, if_pos, if_neg, ↓reduceIte, Nat.reduceAdd, Nat.reduceMul, Nat.reduceSub, s3], by simp (disch := omega) only [lt_eq, bn_s, bn2_s, gd_t, nc, nI_add, n_mul, n_sub, ib_nI, up_hit, up_miss, n_le, n_lt, n_eq, n_eq0, n_lt0, n_0le, n_0lt, n_le0, zb_0, zb_1, if_pos, if_neg, ↓reduceIte, Nat.reduceAdd, Nat.reduceMul, Nat.reduceSub, s4]⟩
theorem s_clear (hn : 2000 ≤ n) : SP_clear Inv n := by
  intro N f m hI
  have hI' := hI
  obtain ⟨hN, ⟨h0, nC, nw, ns, nk, ny, no, nt, h1, h2, h3, h4, h5, h6, h7⟩, hO⟩ := hI
  obtain ⟨g1, g2, g3, g4, g5⟩ := h6
  have g2 : f 22 2 = nI no := g2
  unfold fX11_clear fX12_clear
  simp (disch := omega) only [lt_eq, bn_s, bn2_s, gd_t, nc, nI_add, n_mul, n_sub, ib_nI, up_hit, up_miss, n_le, n_lt, n_eq, n_eq0, n_lt0, n_0le, n_0lt, n_le0, zb_0, zb_1, if_pos, if_neg, ↓reduceIte, Nat.reduceAdd, Nat.reduceMul, Nat.reduceSub, g2, g3]
  refine ⟨_, _, _, rfl, rfl, hI'.w ?_ (fun k hk => by (simp (disch := omega) only [up_rn])) (lwSame.of (fun k hk => by (simp (disch := omega) only [up_rn]))) (fun k k1 _ _ _ _ _ => by (simp (disch := omega) only [up_rn])) (by (simp (disch := omega) only [up_miss]))⟩
  exact putOf (no' := 0) h0 h1 h2 h3 h4 h5 h7 ⟨by omega, up_hit, up_hit, fun i hi => absurd hi (Nat.not_lt_zero _), fun i hi => absurd hi (Nat.not_lt_zero _)⟩ (by (simp (disch := omega) only [up_rn])) (fun k k1 k2 k3 k4 k5 => by (simp (disch := omega) only [up_rn])) (fun i hi => by (simp (disch := omega) only [up_miss])) (lwSame.of (fun k hk => by (simp (disch := omega) only [up_rn])))
theorem s_knock (hn : 2000 ≤ n) : SP_knock Inv n := by
  intro N f m a1 hI
  have hI' := hI
  obtain ⟨hN, ⟨h0, nC, nw, ns, nk, ny, no, nt, h1, h2, h3, h4, h5, h6, h7⟩, hO⟩ := hI
  obtain ⟨g1, g2, g3, g4⟩ := h4
  unfold fX11_knock fX12_knock
  simp (disch := omega) only [lt_eq, bn_s, bn2_s, gd_t, nc, nI_add, n_mul, n_sub, ib_nI, up_hit, up_miss, n_le, n_lt, n_eq, n_eq0, n_lt0, n_0le, n_0lt, n_le0, zb_0, zb_1, if_pos, if_neg, ↓reduceIte, Nat.reduceAdd, Nat.reduceMul, Nat.reduceSub, c_isHeight, r_inB, bI_ite]
  cases hb : inB a1 (-999) (nI 999)
  · exact ⟨_, f, m, rfl, rfl, hI'⟩
  simp only [cond_true]
  by_cases q : nk = 60
  · simp (disch := omega) only [lt_eq, bn_s, bn2_s, gd_t, nc, nI_add, n_mul, n_sub, ib_nI, up_hit, up_miss, n_le, n_lt, n_eq, n_eq0, n_lt0, n_0le, n_0lt, n_le0, zb_0, zb_1, if_pos, if_neg, ↓reduceIte, Nat.reduceAdd, Nat.reduceMul, Nat.reduceSub, q, g2, g3, fX10_addKnock]
    exact ⟨_, f, m, rfl, rfl, hI'⟩
  · simp (disch := omega) only [lt_eq, bn_s, bn2_s, gd_t, nc, nI_add, n_mul, n_sub, ib_nI, up_hit, up_miss, n_le, n_lt, n_eq, n_eq0, n_lt0, n_0le, n_0lt, n_le0, zb_0, zb_1, if_pos, if_neg, ↓reduceIte, Nat.reduceAdd, Nat.reduceMul, Nat.reduceSub, q, g2, g3, fX10_addKnock]
    refine ⟨_, _, _, rfl, rfl, hI'.w ?_ (fun k hk => by (simp (disch := omega) only [up_rn])) (lwSame.of (fun k hk => by (simp (disch := omega) only [up_rn]))) (fun k k1 _ _ _ _ _ => by (simp (disch := omega) only [up_rn])) (by (simp (disch := omega) only [up_miss]))⟩
    refine putKn (nk' := nk + 1) h0 h1 h2 h3 h5 h6 h7 ⟨by omega, up_hit, up_hit, fun i hi => ?_⟩ (fun j hj => by (simp (disch := omega) only [up_miss])) (fun k k1 k2 k3 => by (simp (disch := omega) only [up_rn])) (fun i hi => by (simp (disch := omega) only [up_miss])) (lwSame.of (fun k hk => by (simp (disch := omega) only [up_rn])))
    by_cases w : i = nk
    · subst w
      exact ⟨by simp (disch := omega) only [lt_eq, bn_s, bn2_s, gd_t, nc, nI_add, n_mul, n_sub, ib_nI, up_hit, up_miss, n_le, n_lt, n_eq, n_eq0, n_lt0, n_0le, n_0lt, n_le0, zb_0, zb_1, if_pos, if_neg, ↓reduceIte, Nat.reduceAdd, Nat.reduceMul, Nat.reduceSub], by simp (disch := omega) only [lt_eq, bn_s, bn2_s, gd_t, nc, nI_add, n_mul, n_sub, ib_nI, up_hit, up_miss, n_le, n_lt, n_eq, n_eq0, n_lt0, n_0le, n_0lt, n_le0, zb_0, zb_1, if_pos, if_neg, ↓reduceIte, Nat.reduceAdd, Nat.reduceMul, Nat.reduceSub]; exact hOK_of hb⟩
    · have s3 : f 17 i = m 108 (251 + i) := (g4 i (by omega)).1
      exact ⟨by simp (disch := omega) only [lt_eq, bn_s, bn2_s, gd_t, nc, nI_add, n_mul, n_sub, ib_nI, up_hit, up_miss, n_le, n_lt, n_eq, n_eq0, n_lt0, n_0le, n_0lt, n_le0, zb_0, zb_1, if_pos, if_neg, ↓reduceIte, Nat.reduceAdd, Nat.reduceMul, Nat.reduceSub, s3], by simp (disch := omega) only [lt_eq, bn_s, bn2_s, gd_t, nc, nI_add, n_mul, n_sub, ib_nI, up_hit, up_miss, n_le, n_lt, n_eq, n_eq0, n_lt0, n_0le, n_0lt, n_le0, zb_0, zb_1, if_pos, if_neg, ↓reduceIte, Nat.reduceAdd, Nat.reduceMul, Nat.reduceSub]; exact (g4 i (by omega)).2⟩
theorem s_seed (hn : 2000 ≤ n) : SP_seed Inv n := by
  intro N f m a1 hI
  have hI' := hI
  obtain ⟨hN, ⟨h0, nC, nw, ns, nk, ny, no, nt, h1, h2, h3, h4, h5, h6, h7⟩, hO⟩ := hI
  unfold fX11_seed fX12_seed
  obtain ⟨s0, s1, s2, s3, s4, s5, s6⟩ := h0
  simp (disch := omega) only [lt_eq, bn_s, bn2_s, gd_t, nc, nI_add, n_mul, n_sub, ib_nI, up_hit, up_miss, n_le, n_lt, n_eq, n_eq0, n_lt0, n_0le, n_0lt, n_le0, zb_0, zb_1, if_pos, if_neg, ↓reduceIte, Nat.reduceAdd, Nat.reduceMul, Nat.reduceSub, s5]
  refine ⟨_, _, _, rfl, rfl, hI'.w ?_ (fun k hk => by (simp (disch := omega) only [up_rn])) (lwSame.of (fun k hk => by (simp (disch := omega) only [up_rn]))) (fun k k1 _ _ _ _ _ => by (simp (disch := omega) only [up_rn])) (by (simp (disch := omega) only [up_miss]))⟩
  exact putSc h1 h2 h3 h4 h5 h6 h7 ⟨by simp (disch := omega) only [lt_eq, bn_s, bn2_s, gd_t, nc, nI_add, n_mul, n_sub, ib_nI, up_hit, up_miss, n_le, n_lt, n_eq, n_eq0, n_lt0, n_0le, n_0lt, n_le0, zb_0, zb_1, if_pos, if_neg, ↓reduceIte, Nat.reduceAdd, Nat.reduceMul, Nat.reduceSub, s0], by simp (disch := omega) only [lt_eq, bn_s, bn2_s, gd_t, nc, nI_add, n_mul, n_sub, ib_nI, up_hit, up_miss, n_le, n_lt, n_eq, n_eq0, n_lt0, n_0le, n_0lt, n_le0, zb_0, zb_1, if_pos, if_neg, ↓reduceIte, Nat.reduceAdd, Nat.reduceMul, Nat.reduceSub, s1], by simp (disch := omega) only [lt_eq, bn_s, bn2_s, gd_t, nc, nI_add, n_mul, n_sub, ib_nI, up_hit, up_miss, n_le, n_lt, n_eq, n_eq0, n_lt0, n_0le, n_0lt, n_le0, zb_0, zb_1, if_pos, if_neg, ↓reduceIte, Nat.reduceAdd, Nat.reduceMul, Nat.reduceSub, s2], by simp (disch := omega) only [lt_eq, bn_s, bn2_s, gd_t, nc, nI_add, n_mul, n_sub, ib_nI, up_hit, up_miss, n_le, n_lt, n_eq, n_eq0, n_lt0, n_0le, n_0lt, n_le0, zb_0, zb_1, if_pos, if_neg, ↓reduceIte, Nat.reduceAdd, Nat.reduceMul, Nat.reduceSub, s3], by simp (disch := omega) only [lt_eq, bn_s, bn2_s, gd_t, nc, nI_add, n_mul, n_sub, ib_nI, up_hit, up_miss, n_le, n_lt, n_eq, n_eq0, n_lt0, n_0le, n_0lt, n_le0, zb_0, zb_1, if_pos, if_neg, ↓reduceIte, Nat.reduceAdd, Nat.reduceMul, Nat.reduceSub, s4], by simp (disch := omega) only [lt_eq, bn_s, bn2_s, gd_t, nc, nI_add, n_mul, n_sub, ib_nI, up_hit, up_miss, n_le, n_lt, n_eq, n_eq0, n_lt0, n_0le, n_0lt, n_le0, zb_0, zb_1, if_pos, if_neg, ↓reduceIte, Nat.reduceAdd, Nat.reduceMul, Nat.reduceSub], by simp (disch := omega) only [lt_eq, bn_s, bn2_s, gd_t, nc, nI_add, n_mul, n_sub, ib_nI, up_hit, up_miss, n_le, n_lt, n_eq, n_eq0, n_lt0, n_0le, n_0lt, n_le0, zb_0, zb_1, if_pos, if_neg, ↓reduceIte, Nat.reduceAdd, Nat.reduceMul, Nat.reduceSub]; exact s6⟩ (fun j hj => by (simp (disch := omega) only [up_miss])) (fun k k1 k2 => by (simp (disch := omega) only [up_rn])) (fun i hi => by (simp (disch := omega) only [up_miss])) (lwSame.of (fun k hk => by (simp (disch := omega) only [up_rn])))
theorem s_tell (hn : 2000 ≤ n) : SP_tell Inv n := by
  intro N f m a1 hI
  have hI' := hI
  obtain ⟨hN, hW, hO⟩ := hI
  obtain ⟨o1, o2, o3, ⟨k, k1, k2, k3, k4⟩, o5, o6⟩ := hO
  unfold fX11_tell fX12_tell
  by_cases q : k = 60
  · simp (disch := omega) only [lt_eq, bn_s, bn2_s, gd_t, nc, nI_add, n_mul, n_sub, ib_nI, up_hit, up_miss, n_le, n_lt, n_eq, n_eq0, n_lt0, n_0le, n_0lt, n_le0, zb_0, zb_1, if_pos, if_neg, ↓reduceIte, Nat.reduceAdd, Nat.reduceMul, Nat.reduceSub, k2, k3, q]
    exact ⟨_, f, m, rfl, rfl, hI'⟩
  · simp (disch := omega) only [lt_eq, bn_s, bn2_s, gd_t, nc, nI_add, n_mul, n_sub, ib_nI, up_hit, up_miss, n_le, n_lt, n_eq, n_eq0, n_lt0, n_0le, n_0lt, n_le0, zb_0, zb_1, if_pos, if_neg, ↓reduceIte, Nat.reduceAdd, Nat.reduceMul, Nat.reduceSub, k2, k3, q]
    refine ⟨_, _, _, rfl, rfl, hN, hW.cg (fun k _ _ => by (simp (disch := omega) only [up_rn])) (lwSame.of (fun k hk => by (simp (disch := omega) only [up_rn]))) (fun i => by (simp (disch := omega) only [up_rn])), ?_, fun i hi => ?_, fun i hi => ?_, ⟨k + 1, by omega, by simp (disch := omega) only [lt_eq, bn_s, bn2_s, gd_t, nc, nI_add, n_mul, n_sub, ib_nI, up_hit, up_miss, n_le, n_lt, n_eq, n_eq0, n_lt0, n_0le, n_0lt, n_le0, zb_0, zb_1, if_pos, if_neg, ↓reduceIte, Nat.reduceAdd, Nat.reduceMul, Nat.reduceSub], by simp (disch := omega) only [lt_eq, bn_s, bn2_s, gd_t, nc, nI_add, n_mul, n_sub, ib_nI, up_hit, up_miss, n_le, n_lt, n_eq, n_eq0, n_lt0, n_0le, n_0lt, n_le0, zb_0, zb_1, if_pos, if_neg, ↓reduceIte, Nat.reduceAdd, Nat.reduceMul, Nat.reduceSub], fun i hi => ?_⟩, ?_, ⟨fun i hi => ?_, fun i hi => ?_⟩, ?_⟩
    · obtain ⟨od, o1⟩ := o1
      refine ⟨by simp (disch := omega) only [lt_eq, bn_s, bn2_s, gd_t, nc, nI_add, n_mul, n_sub, ib_nI, up_hit, up_miss, n_le, n_lt, n_eq, n_eq0, n_lt0, n_0le, n_0lt, n_le0, zb_0, zb_1, if_pos, if_neg, ↓reduceIte, Nat.reduceAdd, Nat.reduceMul, Nat.reduceSub]; exact od, ?_⟩
      rcases o1 with ⟨q1, q2⟩ | ⟨q1, q2, q3, q4⟩
      · exact Or.inl ⟨by simp (disch := omega) only [lt_eq, bn_s, bn2_s, gd_t, nc, nI_add, n_mul, n_sub, ib_nI, up_hit, up_miss, n_le, n_lt, n_eq, n_eq0, n_lt0, n_0le, n_0lt, n_le0, zb_0, zb_1, if_pos, if_neg, ↓reduceIte, Nat.reduceAdd, Nat.reduceMul, Nat.reduceSub, q1], by simp (disch := omega) only [lt_eq, bn_s, bn2_s, gd_t, nc, nI_add, n_mul, n_sub, ib_nI, up_hit, up_miss, n_le, n_lt, n_eq, n_eq0, n_lt0, n_0le, n_0lt, n_le0, zb_0, zb_1, if_pos, if_neg, ↓reduceIte, Nat.reduceAdd, Nat.reduceMul, Nat.reduceSub, q2]⟩
      · exact Or.inr ⟨by simp (disch := omega) only [lt_eq, bn_s, bn2_s, gd_t, nc, nI_add, n_mul, n_sub, ib_nI, up_hit, up_miss, n_le, n_lt, n_eq, n_eq0, n_lt0, n_0le, n_0lt, n_le0, zb_0, zb_1, if_pos, if_neg, ↓reduceIte, Nat.reduceAdd, Nat.reduceMul, Nat.reduceSub, q1], by simp (disch := omega) only [lt_eq, bn_s, bn2_s, gd_t, nc, nI_add, n_mul, n_sub, ib_nI, up_hit, up_miss, n_le, n_lt, n_eq, n_eq0, n_lt0, n_0le, n_0lt, n_le0, zb_0, zb_1, if_pos, if_neg, ↓reduceIte, Nat.reduceAdd, Nat.reduceMul, Nat.reduceSub, q2], q3.cg (fun k _ _ => by (simp (disch := omega) only [up_rn])) (lwSame.of (fun k hk => by (simp (disch := omega) only [up_rn]))) (fun i => by (simp (disch := omega) only [up_rn])), by simp (disch := omega) only [lt_eq, bn_s, bn2_s, gd_t, nc, nI_add, n_mul, n_sub, ib_nI, up_hit, up_miss, n_le, n_lt, n_eq, n_eq0, n_lt0, n_0le, n_0lt, n_le0, zb_0, zb_1, if_pos, if_neg, ↓reduceIte, Nat.reduceAdd, Nat.reduceMul, Nat.reduceSub]; exact q4⟩
    · have := o2 i hi
      rw [up_rn (by omega), up_rn (by omega), up_rn (by omega), up_rn (by omega), up_rn (by omega), up_rn (by omega), up_rn (by omega), up_rn (by omega), up_rn (by omega), up_rn (by omega)]
      exact this
    · have := o3 i hi
      simp (disch := omega) only [up_rn]
      exact this
    · by_cases w : i = k
      · subst w
        simp (disch := omega) only [lt_eq, bn_s, bn2_s, gd_t, nc, nI_add, n_mul, n_sub, ib_nI, up_hit, up_miss, n_le, n_lt, n_eq, n_eq0, n_lt0, n_0le, n_0lt, n_le0, zb_0, zb_1, if_pos, if_neg, ↓reduceIte, Nat.reduceAdd, Nat.reduceMul, Nat.reduceSub]
      · have := k4 i (by omega)
        simp (disch := omega) only [lt_eq, bn_s, bn2_s, gd_t, nc, nI_add, n_mul, n_sub, ib_nI, up_hit, up_miss, n_le, n_lt, n_eq, n_eq0, n_lt0, n_0le, n_0lt, n_le0, zb_0, zb_1, if_pos, if_neg, ↓reduceIte, Nat.reduceAdd, Nat.reduceMul, Nat.reduceSub, this]
    · obtain ⟨t, t1, t2, t3, t4⟩ := o5
      exact ⟨t, t1, by simp (disch := omega) only [lt_eq, bn_s, bn2_s, gd_t, nc, nI_add, n_mul, n_sub, ib_nI, up_hit, up_miss, n_le, n_lt, n_eq, n_eq0, n_lt0, n_0le, n_0lt, n_le0, zb_0, zb_1, if_pos, if_neg, ↓reduceIte, Nat.reduceAdd, Nat.reduceMul, Nat.reduceSub, t2], by simp (disch := omega) only [lt_eq, bn_s, bn2_s, gd_t, nc, nI_add, n_mul, n_sub, ib_nI, up_hit, up_miss, n_le, n_lt, n_eq, n_eq0, n_lt0, n_0le, n_0lt, n_le0, zb_0, zb_1, if_pos, if_neg, ↓reduceIte, Nat.reduceAdd, Nat.reduceMul, Nat.reduceSub, t3], by simp (disch := omega) only [up_rn]; exact t4⟩
    · simp (disch := omega) only [up_rn]; exact o6.1.1 i hi
    · simp (disch := omega) only [up_rn]; exact o6.1.2 i hi
    · unfold cRm; simp (disch := omega) only [up_rn]; exact o6.2
theorem s_trim (hn : 2000 ≤ n) : SP_trim Inv n := by
  intro N f m a1 hI
  have hI' := hI
  obtain ⟨hN, hW, hO⟩ := hI
  obtain ⟨o1, o2, o3, o4, ⟨k, k1, k2, k3, k4⟩, o6⟩ := hO
  unfold fX11_trim fX12_trim
  have hp : ∀ (x : Option (Int32 × Mm)) y, (if a1 < 0 then y else if a1 ≤ nI k then x else y) = bif inB a1 (nI 0) (nI k) then x else y := by
    intro x y
    unfold inB
    by_cases q1 : a1 < 0
    · rw [if_pos q1, decide_eq_false (show ¬ nI 0 ≤ a1 from Int32.not_le.mpr q1)]; rfl
    · rw [if_neg q1, decide_eq_true (show nI 0 ≤ a1 from Int32.not_lt.mp q1)]
      by_cases q2 : a1 ≤ nI k
      · rw [if_pos q2, decide_eq_true q2]; rfl
      · rw [if_neg q2, decide_eq_false q2]; rfl
  rw [k2, hp]
  simp (disch := omega) only [lt_eq, bn_s, bn2_s, gd_t, nc, nI_add, n_mul, n_sub, ib_nI, up_hit, up_miss, n_le, n_lt, n_eq, n_eq0, n_lt0, n_0le, n_0lt, n_le0, zb_0, zb_1, if_pos, if_neg, ↓reduceIte, Nat.reduceAdd, Nat.reduceMul, Nat.reduceSub, k3, r_inB, bI_ite]
  cases hb : inB a1 (nI 0) (nI k)
  · exact ⟨_, f, m, rfl, rfl, hI'⟩
  obtain ⟨j, j1, j2, rfl⟩ := inB_r (by omega) (by omega) hb
  simp only [cond_true]
  refine ⟨_, _, _, rfl, rfl, hN, hW.cg (fun k _ _ => by (simp (disch := omega) only [up_rn])) (lwSame.of (fun k hk => by (simp (disch := omega) only [up_rn]))) (fun i => by (simp (disch := omega) only [up_rn])), ?_, fun i hi => ?_, fun i hi => ?_, ?_, ⟨j, by omega, by simp (disch := omega) only [lt_eq, bn_s, bn2_s, gd_t, nc, nI_add, n_mul, n_sub, ib_nI, up_hit, up_miss, n_le, n_lt, n_eq, n_eq0, n_lt0, n_0le, n_0lt, n_le0, zb_0, zb_1, if_pos, if_neg, ↓reduceIte, Nat.reduceAdd, Nat.reduceMul, Nat.reduceSub], by simp (disch := omega) only [lt_eq, bn_s, bn2_s, gd_t, nc, nI_add, n_mul, n_sub, ib_nI, up_hit, up_miss, n_le, n_lt, n_eq, n_eq0, n_lt0, n_0le, n_0lt, n_le0, zb_0, zb_1, if_pos, if_neg, ↓reduceIte, Nat.reduceAdd, Nat.reduceMul, Nat.reduceSub], fun i hi => ?_⟩, ⟨fun i hi => ?_, fun i hi => ?_⟩, ?_⟩
  · obtain ⟨od, o1⟩ := o1
    refine ⟨by simp (disch := omega) only [lt_eq, bn_s, bn2_s, gd_t, nc, nI_add, n_mul, n_sub, ib_nI, up_hit, up_miss, n_le, n_lt, n_eq, n_eq0, n_lt0, n_0le, n_0lt, n_le0, zb_0, zb_1, if_pos, if_neg, ↓reduceIte, Nat.reduceAdd, Nat.reduceMul, Nat.reduceSub]; exact od, ?_⟩
    rcases o1 with ⟨q1, q2⟩ | ⟨q1, q2, q3, q4⟩
    · exact Or.inl ⟨by simp (disch := omega) only [lt_eq, bn_s, bn2_s, gd_t, nc, nI_add, n_mul, n_sub, ib_nI, up_hit, up_miss, n_le, n_lt, n_eq, n_eq0, n_lt0, n_0le, n_0lt, n_le0, zb_0, zb_1, if_pos, if_neg, ↓reduceIte, Nat.reduceAdd, Nat.reduceMul, Nat.reduceSub, q1], by simp (disch := omega) only [lt_eq, bn_s, bn2_s, gd_t, nc, nI_add, n_mul, n_sub, ib_nI, up_hit, up_miss, n_le, n_lt, n_eq, n_eq0, n_lt0, n_0le, n_0lt, n_le0, zb_0, zb_1, if_pos, if_neg, ↓reduceIte, Nat.reduceAdd, Nat.reduceMul, Nat.reduceSub, q2]⟩
    · exact Or.inr ⟨by simp (disch := omega) only [lt_eq, bn_s, bn2_s, gd_t, nc, nI_add, n_mul, n_sub, ib_nI, up_hit, up_miss, n_le, n_lt, n_eq, n_eq0, n_lt0, n_0le, n_0lt, n_le0, zb_0, zb_1, if_pos, if_neg, ↓reduceIte, Nat.reduceAdd, Nat.reduceMul, Nat.reduceSub, q1], by simp (disch := omega) only [lt_eq, bn_s, bn2_s, gd_t, nc, nI_add, n_mul, n_sub, ib_nI, up_hit, up_miss, n_le, n_lt, n_eq, n_eq0, n_lt0, n_0le, n_0lt, n_le0, zb_0, zb_1, if_pos, if_neg, ↓reduceIte, Nat.reduceAdd, Nat.reduceMul, Nat.reduceSub, q2], q3.cg (fun k _ _ => by (simp (disch := omega) only [up_rn])) (lwSame.of (fun k hk => by (simp (disch := omega) only [up_rn]))) (fun i => by (simp (disch := omega) only [up_rn])), by simp (disch := omega) only [lt_eq, bn_s, bn2_s, gd_t, nc, nI_add, n_mul, n_sub, ib_nI, up_hit, up_miss, n_le, n_lt, n_eq, n_eq0, n_lt0, n_0le, n_0lt, n_le0, zb_0, zb_1, if_pos, if_neg, ↓reduceIte, Nat.reduceAdd, Nat.reduceMul, Nat.reduceSub]; exact q4⟩
  · simp (disch := omega) only [up_rn]; exact o2 i hi
  · simp (disch := omega) only [up_rn]; exact o3 i hi
  · obtain ⟨t, t1, t2, t3, t4⟩ := o4
    exact ⟨t, t1, by simp (disch := omega) only [lt_eq, bn_s, bn2_s, gd_t, nc, nI_add, n_mul, n_sub, ib_nI, up_hit, up_miss, n_le, n_lt, n_eq, n_eq0, n_lt0, n_0le, n_0lt, n_le0, zb_0, zb_1, if_pos, if_neg, ↓reduceIte, Nat.reduceAdd, Nat.reduceMul, Nat.reduceSub, t2], by simp (disch := omega) only [lt_eq, bn_s, bn2_s, gd_t, nc, nI_add, n_mul, n_sub, ib_nI, up_hit, up_miss, n_le, n_lt, n_eq, n_eq0, n_lt0, n_0le, n_0lt, n_le0, zb_0, zb_1, if_pos, if_neg, ↓reduceIte, Nat.reduceAdd, Nat.reduceMul, Nat.reduceSub, t3], by simp (disch := omega) only [up_rn]; exact t4⟩
  · simp (disch := omega) only [up_rn]; exact k4 i (by omega)
  · simp (disch := omega) only [up_rn]; exact o6.1.1 i hi
  · simp (disch := omega) only [up_rn]; exact o6.1.2 i hi
  · unfold cRm; simp (disch := omega) only [up_rn]; exact o6.2
end K2
