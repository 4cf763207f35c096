section K4
variable {n : Nat}
theorem s_seen (hn : 2000 ≤ n) : SP_seen Inv n := by
  intro N f m a1 hI
  unfold fX11_seen fX12_seen
  simp (disch := omega) only [lt_eq, bn_s, bn2_s, gd_t, nc, nI_add, n_mul, n_sub, ib_nI, up_hit, up_miss, n_le, n_lt, n_eq, n_eq0, n_lt0, n_0le, n_0lt, n_le0, zb_0, zb_1, if_pos, if_neg, ↓reduceIte, Nat.reduceAdd, Nat.reduceMul, Nat.reduceSub, c_isDay, r_isDay, bI_ite, c_seenOn hn hI.2.1, q_seenOn hn hI.2.1.okA]
  cases inB a1 (nI 0) (nI 1999)
  · exact ⟨_, rfl, rfl, hI⟩
  · exact ⟨_, rfl, rfl, hI⟩
theorem s_fit (hn : 2000 ≤ n) : SP_fit Inv n := by
  intro N f m hI
  exact ⟨_, c_fit hn hI.2.1, q_fit hn hI.2.1.okA, hI⟩
theorem s_jokes (hn : 2000 ≤ n) : SP_jokes Inv n := by
  intro N f m hI
  exact ⟨_, c_jokes hn hI.2.1, q_jokes hn hI.2.1.okA, hI⟩
theorem s_keys (hn : 2000 ≤ n) : SP_keys Inv n := by
  intro N f m a1 hI
  unfold fX11_keys fX12_keys
  have : fX7_manyOn n 18 a1 f = some (nI (keysS (m 108) a1)) := c_manyOn hn hI.2.1
  simp (disch := omega) only [lt_eq, bn_s, bn2_s, gd_t, nc, nI_add, n_mul, n_sub, ib_nI, up_hit, up_miss, n_le, n_lt, n_eq, n_eq0, n_lt0, n_0le, n_0lt, n_le0, zb_0, zb_1, if_pos, if_neg, ↓reduceIte, Nat.reduceAdd, Nat.reduceMul, Nat.reduceSub, c_isDay, r_isDay, bI_ite, this, q_keysOn hn hI.2.1.okA]
  cases inB a1 (nI 0) (nI 1999)
  · exact ⟨_, rfl, rfl, hI⟩
  · exact ⟨_, rfl, rfl, hI⟩
theorem s_chance (hn : 2000 ≤ n) : SP_chance Inv n := by
  intro N f m hI
  have hI' := hI
  obtain ⟨hN, hW, hO⟩ := hI
  obtain ⟨_, _, _, s3, _, _, _, _, _, ⟨p, p1, p2⟩, _⟩ := hW.1
  unfold fX11_chance fX12_chance
  simp (disch := omega) only [lt_eq, bn_s, bn2_s, gd_t, nc, nI_add, n_mul, n_sub, ib_nI, up_hit, up_miss, n_le, n_lt, n_eq, n_eq0, n_lt0, n_0le, n_0lt, n_le0, zb_0, zb_1, if_pos, if_neg, ↓reduceIte, Nat.reduceAdd, Nat.reduceMul, Nat.reduceSub, s3, p2, c_knocksWithin hn hW p1, q_fitting hn hW.okA]
  exact ⟨_, rfl, rfl, hI'⟩
theorem s_line (hn : 2000 ≤ n) : SP_line Inv n := by
  intro N f m a1 a2 hI
  have hI' := hI
  obtain ⟨hN, hW, hO⟩ := hI
  have hW' := hW
  obtain ⟨h0, nC, nw, ns, nk, ny, no, nt, h1, h2, h3, h4, h5, h6, h7⟩ := hW
  have hc2 : f 2 3 = nI nC := h1.2.1
  have hc3 : m 108 6 = nI nC := h1.2.2.1
  have hc6 := h1.1
  unfold fX11_line fX12_line
  simp (disch := omega) only [lt_eq, bn_s, bn2_s, gd_t, nc, nI_add, n_mul, n_sub, ib_nI, up_hit, up_miss, n_le, n_lt, n_eq, n_eq0, n_lt0, n_0le, n_0lt, n_le0, zb_0, zb_1, if_pos, if_neg, ↓reduceIte, Nat.reduceAdd, Nat.reduceMul, Nat.reduceSub, c_has1 hc2, r_isCoil, hc3, bI_ite, c_isDay, r_isDay]
  cases hb : inB a1 (nI 0) (nI nC - nI 1)
  · exact ⟨_, rfl, rfl, hI'⟩
  obtain ⟨j, j1, rfl⟩ := inB_h (by omega) hb
  simp (disch := omega) only [lt_eq, bn_s, bn2_s, gd_t, nc, nI_add, n_mul, n_sub, ib_nI, up_hit, up_miss, n_le, n_lt, n_eq, n_eq0, n_lt0, n_0le, n_0lt, n_le0, zb_0, zb_1, if_pos, if_neg, ↓reduceIte, Nat.reduceAdd, Nat.reduceMul, Nat.reduceSub, cond_true, c_lineOf hn hW' (c := j) (by rw [ct_n hc3 (by omega)]; exact j1), q_lineOf hn hW'.okA (c := j) (by omega)]
  cases inB a2 (nI 0) (nI 1999)
  · exact ⟨_, rfl, rfl, hI'⟩
  · exact ⟨_, rfl, rfl, hI'⟩
theorem in_no {x : Int32} {k : Nat} (hk : k < 2147483647) (h : inB x (nI 0) (nI k) = false) : ∀ j, j ≤ k → ¬ x = nI j := by
  intro j hj e
  subst e
  have : inB (nI j) (nI 0) (nI k) = true := nI_inB2 (k := k + 1) (by omega) (by omega)
  rw [this] at h
  cases h
theorem s_told (hn : 2000 ≤ n) : SP_told Inv n := by
  intro N f m a1 a2 hI
  have hI' := hI
  obtain ⟨hN, hW, hO⟩ := hI
  have hW' := hW
  obtain ⟨h0, nC, nw, ns, nk, ny, no, nt, h1, h2, h3, h4, h5, h6, h7⟩ := hW
  have s2 : f 1 2 = m 108 2 := h0.2.2.1
  obtain ⟨g1, g2, g3, g4, g5, g6, g7⟩ := h3
  have g2 : f 10 4 = nI ns := g2
  have e8 : ct (m 108) 8 = ns := ct_n g3 (by omega)
  unfold fX11_told fX12_told
  simp (disch := omega) only [lt_eq, bn_s, bn2_s, gd_t, nc, nI_add, n_mul, n_sub, ib_nI, up_hit, up_miss, n_le, n_lt, n_eq, n_eq0, n_lt0, n_0le, n_0lt, n_le0, zb_0, zb_1, if_pos, if_neg, ↓reduceIte, Nat.reduceAdd, Nat.reduceMul, Nat.reduceSub, c_has8 g2, r_isStep, g3, r_inB, bI_ite]
  cases hb : inB a1 (nI 0) (nI ns - nI 1)
  · exact ⟨_, rfl, rfl, hI'⟩
  obtain ⟨j, j1, rfl⟩ := inB_h (by omega) hb
  obtain ⟨s, s1, s3, s4⟩ := g4 j j1
  have s3 : f 11 j = nI s := s3
  obtain ⟨c, c1, c3, c4⟩ := g5 j j1
  have c3 : f 12 j = nI c := c3
  have d3 : f 13 j = m 108 (93 + 4 * j) := g6 j j1
  have t3 : f 14 j = m 108 (94 + 4 * j) := (g7 j j1).1
  simp (disch := omega) only [lt_eq, bn_s, bn2_s, gd_t, nc, nI_add, n_mul, n_sub, ib_nI, up_hit, up_miss, n_le, n_lt, n_eq, n_eq0, n_lt0, n_0le, n_0lt, n_le0, zb_0, zb_1, if_pos, if_neg, ↓reduceIte, Nat.reduceAdd, Nat.reduceMul, Nat.reduceSub, cond_true, s3, c3, d3, t3, c_stepFits hn hW' (s := j) (by omega), q_fits hn hW'.okA (s := j) (by omega), bI_ite, s2, r_step4, s4, worth_eq (m := m) (w := m 108 2) rfl]
  cases hb2 : inB a2 (nI 0) (nI 5)
  · have := in_no (by omega) hb2
    simp only [this 0 (by omega), this 1 (by omega), this 2 (by omega), this 3 (by omega), this 4 (by omega), this 5 (by omega), if_false, cond_false]
    exact ⟨_, rfl, rfl, hI'⟩
  obtain ⟨k, _, k2, rfl⟩ := inB_r (by omega) (by omega) hb2
  have hk : k = 0 ∨ k = 1 ∨ k = 2 ∨ k = 3 ∨ k = 4 ∨ k = 5 := by omega
  rcases hk with rfl | rfl | rfl | rfl | rfl | rfl
  · simp (disch := omega) only [lt_eq, bn_s, bn2_s, gd_t, nc, nI_add, n_mul, n_sub, ib_nI, up_hit, up_miss, n_le, n_lt, n_eq, n_eq0, n_lt0, n_0le, n_0lt, n_le0, zb_0, zb_1, if_pos, if_neg, ↓reduceIte, Nat.reduceAdd, Nat.reduceMul, Nat.reduceSub, cond_true, r_step4, s4]
    exact ⟨_, rfl, rfl, hI'⟩
  · simp (disch := omega) only [lt_eq, bn_s, bn2_s, gd_t, nc, nI_add, n_mul, n_sub, ib_nI, up_hit, up_miss, n_le, n_lt, n_eq, n_eq0, n_lt0, n_0le, n_0lt, n_le0, zb_0, zb_1, if_pos, if_neg, ↓reduceIte, Nat.reduceAdd, Nat.reduceMul, Nat.reduceSub, cond_true, r_step4, c4]
    exact ⟨_, rfl, rfl, hI'⟩
  · simp (disch := omega) only [lt_eq, bn_s, bn2_s, gd_t, nc, nI_add, n_mul, n_sub, ib_nI, up_hit, up_miss, n_le, n_lt, n_eq, n_eq0, n_lt0, n_0le, n_0lt, n_le0, zb_0, zb_1, if_pos, if_neg, ↓reduceIte, Nat.reduceAdd, Nat.reduceMul, Nat.reduceSub, cond_true, r_step4]
    exact ⟨_, rfl, rfl, hI'⟩
  · simp (disch := omega) only [lt_eq, bn_s, bn2_s, gd_t, nc, nI_add, n_mul, n_sub, ib_nI, up_hit, up_miss, n_le, n_lt, n_eq, n_eq0, n_lt0, n_0le, n_0lt, n_le0, zb_0, zb_1, if_pos, if_neg, ↓reduceIte, Nat.reduceAdd, Nat.reduceMul, Nat.reduceSub, cond_true, r_step4]
    exact ⟨_, rfl, rfl, hI'⟩
  · simp (disch := omega) only [lt_eq, bn_s, bn2_s, gd_t, nc, nI_add, n_mul, n_sub, ib_nI, up_hit, up_miss, n_le, n_lt, n_eq, n_eq0, n_lt0, n_0le, n_0lt, n_le0, zb_0, zb_1, if_pos, if_neg, ↓reduceIte, Nat.reduceAdd, Nat.reduceMul, Nat.reduceSub, cond_true]
    cases fitS (m 108) j
    · exact ⟨_, rfl, rfl, hI'⟩
    · exact ⟨_, rfl, rfl, hI'⟩
  · obtain ⟨r, hr⟩ := worth_some (n := n) (k := nI s) (h := m 108 (94 + 4 * j)) (w := m 108 2)
    simp (disch := omega) only [lt_eq, bn_s, bn2_s, gd_t, nc, nI_add, n_mul, n_sub, ib_nI, up_hit, up_miss, n_le, n_lt, n_eq, n_eq0, n_lt0, n_0le, n_0lt, n_le0, zb_0, zb_1, if_pos, if_neg, ↓reduceIte, Nat.reduceAdd, Nat.reduceMul, Nat.reduceSub, cond_true, hr]
    exact ⟨_, rfl, rfl, hI'⟩
theorem s_as (hn : 2000 ≤ n) : SP_as Inv n := by
  intro N f m a1 a2 hI
  have hI' := hI
  obtain ⟨hN, hW, hO⟩ := hI
  obtain ⟨h0, nC, nw, ns, nk, ny, no, nt, h1, h2, h3, h4, h5, h6, h7⟩ := hW
  obtain ⟨g1, g2, g3, g4, g5, g6, g7⟩ := h3
  have g2 : f 10 4 = nI ns := g2
  unfold fX11_as fX12_as
  simp (disch := omega) only [lt_eq, bn_s, bn2_s, gd_t, nc, nI_add, n_mul, n_sub, ib_nI, up_hit, up_miss, n_le, n_lt, n_eq, n_eq0, n_lt0, n_0le, n_0lt, n_le0, zb_0, zb_1, if_pos, if_neg, ↓reduceIte, Nat.reduceAdd, Nat.reduceMul, Nat.reduceSub, c_has8 g2, r_isStep, g3, r_inB, bI_ite, c_isKind]
  cases hb : inB a1 (nI 0) (nI ns - nI 1)
  · exact ⟨_, rfl, rfl, hI'⟩
  obtain ⟨j, j1, rfl⟩ := inB_h (by omega) hb
  cases hb2 : inB a2 (nI 0) (nI 5)
  · exact ⟨_, rfl, rfl, hI'⟩
  obtain ⟨k, _, k2, rfl⟩ := inB_r (by omega) (by omega) hb2
  obtain ⟨s, s1, s3, s4⟩ := g4 j j1
  have s3 : f 11 j = nI s := s3
  have t3 : f 14 j = m 108 (94 + 4 * j) := (g7 j j1).1
  obtain ⟨b, e1, e2⟩ := under_eq (n := n) (f := f) hn s1 k2
  simp (disch := omega) only [lt_eq, bn_s, bn2_s, gd_t, nc, nI_add, n_mul, n_sub, ib_nI, up_hit, up_miss, n_le, n_lt, n_eq, n_eq0, n_lt0, n_0le, n_0lt, n_le0, zb_0, zb_1, if_pos, if_neg, ↓reduceIte, Nat.reduceAdd, Nat.reduceMul, Nat.reduceSub, cond_true, s3, t3, r_step4, s4, e1, e2, bI_ite]
  cases b
  · exact ⟨_, rfl, rfl, hI'⟩
  · exact ⟨_, rfl, rfl, hI'⟩
theorem s_width (hn : 2000 ≤ n) : SP_width Inv n := by
  intro N f m a1 hI
  have hW := hI.2.1
  unfold fX11_width fX12_width
  simp (disch := omega) only [lt_eq, bn_s, bn2_s, gd_t, nc, nI_add, n_mul, n_sub, ib_nI, up_hit, up_miss, n_le, n_lt, n_eq, n_eq0, n_lt0, n_0le, n_0lt, n_le0, zb_0, zb_1, if_pos, if_neg, ↓reduceIte, Nat.reduceAdd, Nat.reduceMul, Nat.reduceSub, ite_in2, r_inB, bI_ite]
  cases hb : inB a1 (nI 0) (nI 60)
  · exact ⟨_, rfl, rfl, hI⟩
  simp only [cond_true]
  have L := loopSim (fun q i (_ : Unit) => fX11_width_15L n q a1 (nI i) f) (fun q i (_ : Unit) => fX12_width_15L n q a1 (nI i) m) 100 (fun _ _ _ => True) (fun r p => r = p) ?_ ?_ n 0 () () (by omega) (by omega) trivial
  · obtain ⟨r, p, e1, e2, rfl⟩ := L
    exact ⟨r, e1, e2, hI⟩
  · intro q _ _ _
    exact ⟨(-1000000005 : Int32), (-1000000005 : Int32), by simp (disch := omega) only [lt_eq, bn_s, bn2_s, gd_t, nc, nI_add, n_mul, n_sub, ib_nI, up_hit, up_miss, n_le, n_lt, n_eq, n_eq0, n_lt0, n_0le, n_0lt, n_le0, zb_0, zb_1, if_pos, if_neg, ↓reduceIte, Nat.reduceAdd, Nat.reduceMul, Nat.reduceSub, fX11_width_15, fX11_width_15L], by simp (disch := omega) only [lt_eq, bn_s, bn2_s, gd_t, nc, nI_add, n_mul, n_sub, ib_nI, up_hit, up_miss, n_le, n_lt, n_eq, n_eq0, n_lt0, n_0le, n_0lt, n_le0, zb_0, zb_1, if_pos, if_neg, ↓reduceIte, Nat.reduceAdd, Nat.reduceMul, Nat.reduceSub, fX12_width_15, fX12_width_15L], rfl⟩
  · intro q i _ _ hi _
    have hp : i ≤ 99 := by omega
    simp (disch := omega) only [lt_eq, bn_s, bn2_s, gd_t, nc, nI_add, n_mul, n_sub, ib_nI, up_hit, up_miss, n_le, n_lt, n_eq, n_eq0, n_lt0, n_0le, n_0lt, n_le0, zb_0, zb_1, if_pos, if_neg, ↓reduceIte, Nat.reduceAdd, Nat.reduceMul, Nat.reduceSub, fX11_width_15, fX11_width_15L, fX12_width_15, fX12_width_15L, c_knocksWithin hn hW hp, q_fitting hn hW.okA]
    by_cases w : nI (fittingS (m 108) (nI i)) < a1
    · simp only [w, if_true]
      exact Or.inr ⟨(), (), by first | rfl | trivial, by first | rfl | trivial, trivial⟩
    · simp only [w, if_false]
      exact Or.inl ⟨_, _, rfl, rfl, rfl⟩
theorem q_manyOf {m : Mm} {c : Int32} (hn : 2000 ≤ n) (hA : okA (m 108)) : fX12_coilTold_94L n n c (nI 0) (nI 0) m = some (nI (manyOfS (m 108) c)) := by
  obtain ⟨_, _, ⟨k, hk, e⟩, _⟩ := hA
  unfold manyOfS
  rw [ct_n e (by omega), ← smI_cnt]
  have := loopSm (fun q i s => fX12_coilTold_94L n q c s (nI i) m) k (fun s => bI (decide (m 108 (92 + 4 * s) = c))) some (fun q s => ?_) (fun q i s hi => ?_) n (nI 0) (by omega)
  · simpa only [z_add] using this
  · simp (disch := omega) only [lt_eq, bn_s, bn2_s, gd_t, nc, nI_add, n_mul, n_sub, ib_nI, up_hit, up_miss, n_le, n_lt, n_eq, n_eq0, n_lt0, n_0le, n_0lt, n_le0, zb_0, zb_1, if_pos, if_neg, ↓reduceIte, Nat.reduceAdd, Nat.reduceMul, Nat.reduceSub, fX12_coilTold_123, fX12_coilTold_94, fX12_coilTold_94L, e]
  · simp (disch := omega) only [lt_eq, bn_s, bn2_s, gd_t, nc, nI_add, n_mul, n_sub, ib_nI, up_hit, up_miss, n_le, n_lt, n_eq, n_eq0, n_lt0, n_0le, n_0lt, n_le0, zb_0, zb_1, if_pos, if_neg, ↓reduceIte, Nat.reduceAdd, Nat.reduceMul, Nat.reduceSub, fX12_coilTold_123, fX12_coilTold_94, fX12_coilTold_94L, e, r_step4]
    by_cases q1 : m 108 (92 + 4 * i) = c
    · simp only [q1, if_true, decide_true, bI_t]
    · simp only [q1, if_false, decide_false, bI_f]
theorem s_coilTold (hn : 2000 ≤ n) : SP_coilTold Inv n := by
  intro N f m a1 a2 hI
  have hI' := hI
  obtain ⟨hN, hW, hO⟩ := hI
  have hW' := hW
  obtain ⟨h0, nC, nw, ns, nk, ny, no, nt, h1, h2, h3, h4, h5, h6, h7⟩ := hW
  obtain ⟨g1, g2, g3, g4, g5, g6⟩ := h1
  have g2 : f 2 3 = nI nC := g2
  have s0 : f 1 0 = m 108 1 := h0.1
  unfold fX11_coilTold fX12_coilTold
  simp (disch := omega) only [lt_eq, bn_s, bn2_s, gd_t, nc, nI_add, n_mul, n_sub, ib_nI, up_hit, up_miss, n_le, n_lt, n_eq, n_eq0, n_lt0, n_0le, n_0lt, n_le0, zb_0, zb_1, if_pos, if_neg, ↓reduceIte, Nat.reduceAdd, Nat.reduceMul, Nat.reduceSub, c_has1 g2, r_isCoil, g3, bI_ite, r_inB]
  cases hb : inB a1 (nI 0) (nI nC - nI 1)
  · exact ⟨_, rfl, rfl, hI'⟩
  obtain ⟨j, j1, rfl⟩ := inB_h (by omega) hb
  have hmo : fX8_manyOf n 10 (nI j) f = some (nI (manyOfS (m 108) (nI j))) := c_manyOf hn hW'
  simp (disch := omega) only [lt_eq, bn_s, bn2_s, gd_t, nc, nI_add, n_mul, n_sub, ib_nI, up_hit, up_miss, n_le, n_lt, n_eq, n_eq0, n_lt0, n_0le, n_0lt, n_le0, zb_0, zb_1, if_pos, if_neg, ↓reduceIte, Nat.reduceAdd, Nat.reduceMul, Nat.reduceSub, cond_true, s0, c_isWatched hn hW' (c := j) (by omega), q_isWatched hn hW'.okA, hmo, q_manyOf hn hW'.okA, bI_ite]
  cases hb2 : inB a2 (nI 0) (nI 4)
  · have := in_no (by omega) hb2
    simp only [this 0 (by omega), this 1 (by omega), this 2 (by omega), this 3 (by omega), this 4 (by omega), if_false, cond_false]
    exact ⟨_, rfl, rfl, hI'⟩
  obtain ⟨k, _, k2, rfl⟩ := inB_r (by omega) (by omega) hb2
  have hk : k = 0 ∨ k = 1 ∨ k = 2 ∨ k = 3 ∨ k = 4 := by omega
  rcases hk with rfl | rfl | rfl | rfl | rfl
  · obtain ⟨s, _, _, t1, t2⟩ := g4 j j1
    have t1 : f 3 j = nI s := t1
    simp (disch := omega) only [lt_eq, bn_s, bn2_s, gd_t, nc, nI_add, n_mul, n_sub, ib_nI, up_hit, up_miss, n_le, n_lt, n_eq, n_eq0, n_lt0, n_0le, n_0lt, n_le0, zb_0, zb_1, if_pos, if_neg, ↓reduceIte, Nat.reduceAdd, Nat.reduceMul, Nat.reduceSub, cond_true, r_coil3, t1, t2]
    exact ⟨_, rfl, rfl, hI'⟩
  · have t1 : f 4 j = m 108 (14 + 3 * j) := g5 j j1
    simp (disch := omega) only [lt_eq, bn_s, bn2_s, gd_t, nc, nI_add, n_mul, n_sub, ib_nI, up_hit, up_miss, n_le, n_lt, n_eq, n_eq0, n_lt0, n_0le, n_0lt, n_le0, zb_0, zb_1, if_pos, if_neg, ↓reduceIte, Nat.reduceAdd, Nat.reduceMul, Nat.reduceSub, cond_true, r_coil3, t1]
    exact ⟨_, rfl, rfl, hI'⟩
  · rcases g6 j j1 with ⟨t1, t2⟩ | ⟨i, t0, _, t1, t2, _⟩
    · have t1 : f 5 j = NONEi := t1
      simp (disch := omega) only [lt_eq, bn_s, bn2_s, gd_t, nc, nI_add, n_mul, n_sub, ib_nI, up_hit, up_miss, n_le, n_lt, n_eq, n_eq0, n_lt0, n_0le, n_0lt, n_le0, zb_0, zb_1, if_pos, if_neg, ↓reduceIte, Nat.reduceAdd, Nat.reduceMul, Nat.reduceSub, cond_true, r_coil3, t1, t2, m1_le]
      exact ⟨_, rfl, rfl, hI'⟩
    · have t1 : f 5 j = nI i := t1
      simp (disch := omega) only [lt_eq, bn_s, bn2_s, gd_t, nc, nI_add, n_mul, n_sub, ib_nI, up_hit, up_miss, n_le, n_lt, n_eq, n_eq0, n_lt0, n_0le, n_0lt, n_le0, zb_0, zb_1, if_pos, if_neg, ↓reduceIte, Nat.reduceAdd, Nat.reduceMul, Nat.reduceSub, cond_true, r_coil3, t1, t2]
      exact ⟨_, rfl, rfl, hI'⟩
  · simp (disch := omega) only [lt_eq, bn_s, bn2_s, gd_t, nc, nI_add, n_mul, n_sub, ib_nI, up_hit, up_miss, n_le, n_lt, n_eq, n_eq0, n_lt0, n_0le, n_0lt, n_le0, zb_0, zb_1, if_pos, if_neg, ↓reduceIte, Nat.reduceAdd, Nat.reduceMul, Nat.reduceSub, cond_true]
    cases wat (m 108) (nI j) (m 108 1)
    · exact ⟨_, rfl, rfl, hI'⟩
    · exact ⟨_, rfl, rfl, hI'⟩
  · simp (disch := omega) only [lt_eq, bn_s, bn2_s, gd_t, nc, nI_add, n_mul, n_sub, ib_nI, up_hit, up_miss, n_le, n_lt, n_eq, n_eq0, n_lt0, n_0le, n_0lt, n_le0, zb_0, zb_1, if_pos, if_neg, ↓reduceIte, Nat.reduceAdd, Nat.reduceMul, Nat.reduceSub, cond_true]
    exact ⟨_, rfl, rfl, hI'⟩
theorem s_why (hn : 2000 ≤ n) : SP_why Inv n := by
  intro N f m a1 hI
  have hI' := hI
  obtain ⟨hN, hW, hO⟩ := hI
  have hW' := hW
  obtain ⟨h0, nC, nw, ns, nk, ny, no, nt, h1, h2, h3, h4, h5, h6, h7⟩ := hW
  have g9 : m 108 9 = nI nt := h7.2.2.1
  have g1 := h7.1
  unfold fX11_why fX12_why
  simp (disch := omega) only [lt_eq, bn_s, bn2_s, gd_t, nc, nI_add, n_mul, n_sub, ib_nI, up_hit, up_miss, n_le, n_lt, n_eq, n_eq0, n_lt0, n_0le, n_0lt, n_le0, zb_0, zb_1, if_pos, if_neg, ↓reduceIte, Nat.reduceAdd, Nat.reduceMul, Nat.reduceSub, ite_in2, r_inB, bI_ite]
  cases hb : inB a1 (nI 0) (nI 2)
  · exact ⟨_, rfl, rfl, hI'⟩
  obtain ⟨k, _, k2, rfl⟩ := inB_r (by omega) (by omega) hb
  have e : f 16 k = lastV (lastK (m 108) k nt) := h7.2.2.2.2.2 k (by omega)
  simp (disch := omega) only [lt_eq, bn_s, bn2_s, gd_t, nc, nI_add, n_mul, n_sub, ib_nI, up_hit, up_miss, n_le, n_lt, n_eq, n_eq0, n_lt0, n_0le, n_0lt, n_le0, zb_0, zb_1, if_pos, if_neg, ↓reduceIte, Nat.reduceAdd, Nat.reduceMul, Nat.reduceSub, cond_true, e, r_counts hn hW'.okL k2, ct_n g9 (show nt < 2147483648 by omega)]
  cases hl : lastK (m 108) k nt with
  | none =>
    simp (disch := omega) only [lt_eq, bn_s, bn2_s, gd_t, nc, nI_add, n_mul, n_sub, ib_nI, up_hit, up_miss, n_le, n_lt, n_eq, n_eq0, n_lt0, n_0le, n_0lt, n_le0, zb_0, zb_1, if_pos, if_neg, ↓reduceIte, Nat.reduceAdd, Nat.reduceMul, Nat.reduceSub, cvI, m1_le, lastV]
    exact ⟨_, rfl, rfl, hI'⟩
  | some t =>
    have := (lastK_s _ hl).1
    simp (disch := omega) only [lt_eq, bn_s, bn2_s, gd_t, nc, nI_add, n_mul, n_sub, ib_nI, up_hit, up_miss, n_le, n_lt, n_eq, n_eq0, n_lt0, n_0le, n_0lt, n_le0, zb_0, zb_1, if_pos, if_neg, ↓reduceIte, Nat.reduceAdd, Nat.reduceMul, Nat.reduceSub, cvI, lastV]
    exact ⟨_, rfl, rfl, hI'⟩
theorem s_textTold (hn : 2000 ≤ n) : SP_textTold Inv n := by
  intro N f m a1 a2 hI
  have hI' := hI
  obtain ⟨hN, hW, hO⟩ := hI
  obtain ⟨h0, nC, nw, ns, nk, ny, no, nt, h1, h2, h3, h4, h5, h6, h7⟩ := hW
  obtain ⟨g1, g2, g3, g4, g5, g6⟩ := h7
  unfold fX11_textTold fX12_textTold
  have e : ∀ (x y : Option Int32), (if a1 < 0 then y else if a1 < nI nt then x else y) = bif inB a1 (nI 0) (nI nt - nI 1) then x else y := by
    intro x y
    cases hb : inB a1 (nI 0) (nI nt - nI 1)
    · rcases pk_ix a1 (n := nt) (by omega) with q | q | ⟨j, hj, rfl⟩
      · rw [if_pos q]; rfl
      · by_cases q1 : a1 < 0
        · rw [if_pos q1]; rfl
        · rw [if_neg q1, if_neg (Int32.not_lt.mpr q)]; rfl
      · rw [nI_inB hj (by omega)] at hb; cases hb
    · obtain ⟨j, j2, rfl⟩ := inB_h (by omega) hb
      simp (disch := omega) only [lt_eq, bn_s, bn2_s, gd_t, nc, nI_add, n_mul, n_sub, ib_nI, up_hit, up_miss, n_le, n_lt, n_eq, n_eq0, n_lt0, n_0le, n_0lt, n_le0, zb_0, zb_1, if_pos, if_neg, ↓reduceIte, cond_true]
  rw [g2, e]
  simp (disch := omega) only [lt_eq, bn_s, bn2_s, gd_t, nc, nI_add, n_mul, n_sub, ib_nI, up_hit, up_miss, n_le, n_lt, n_eq, n_eq0, n_lt0, n_0le, n_0lt, n_le0, zb_0, zb_1, if_pos, if_neg, ↓reduceIte, Nat.reduceAdd, Nat.reduceMul, Nat.reduceSub, g3, r_inB, bI_ite]
  cases hb : inB a1 (nI 0) (nI nt - nI 1)
  · exact ⟨_, rfl, rfl, hI'⟩
  obtain ⟨t, t1, rfl⟩ := inB_h (by omega) hb
  obtain ⟨j, hj, ej, key, cs, at_, k1, k2, k3, e1, e2, e3, e4, e5, e6, e7, e8⟩ := g4 t t1
  have ej : f 15 t = nI (j + 1) := ej
  have ej1 : j + 1 - 1 = j := rfl
  have ek : (1000 * key + cs) / 1000 = key := by omega
  have e9 : 347 + 2 * t + 1 = 348 + 2 * t := by omega
  simp (disch := omega) only [lt_eq, bn_s, bn2_s, gd_t, nc, nI_add, n_mul, n_sub, ib_nI, up_hit, up_miss, n_le, n_lt, n_eq, n_eq0, n_lt0, n_0le, n_0lt, n_le0, zb_0, zb_1, if_pos, if_neg, ↓reduceIte, Nat.reduceAdd, Nat.reduceMul, Nat.reduceSub, cond_true, ej, gd_of (lkb_t hj hN), ej1, e1, e9, e2, pk_div, ek, e3, e4, ite_in2]
  cases inB a2 (nI 0) (nI 1)
  · exact ⟨_, rfl, rfl, hI'⟩
  · simp only [cond_true]
    split
    · exact ⟨_, rfl, rfl, hI'⟩
    · exact ⟨_, rfl, rfl, hI'⟩
theorem s_ask (hn : 2000 ≤ n) : SP_ask Inv n := by
  intro N f m a1 a2 hI
  have hI' := hI
  obtain ⟨hN, hW, hO⟩ := hI
  have s2 : f 1 2 = m 108 2 := hW.1.2.2.1
  unfold fX11_ask fX12_ask
  simp (disch := omega) only [lt_eq, bn_s, bn2_s, gd_t, nc, nI_add, n_mul, n_sub, ib_nI, up_hit, up_miss, n_le, n_lt, n_eq, n_eq0, n_lt0, n_0le, n_0lt, n_le0, zb_0, zb_1, if_pos, if_neg, ↓reduceIte, Nat.reduceAdd, Nat.reduceMul, Nat.reduceSub, c_isSlot, r_isSlot, r_inB, bI_ite, c_isKind]
  cases hb : inB a1 (nI 0) (nI 4)
  · exact ⟨_, rfl, rfl, hI'⟩
  obtain ⟨i, _, i1, rfl⟩ := inB_r (by omega) (by omega) hb
  cases hb2 : inB a2 (nI 0) (nI 5)
  · exact ⟨_, rfl, rfl, hI'⟩
  obtain ⟨k, _, k2, rfl⟩ := inB_r (by omega) (by omega) hb2
  obtain ⟨th, h1, h2, h3, h4, h5, h6⟩ := hO.2.2.1 i (by omega)
  simp (disch := omega) only [lt_eq, bn_s, bn2_s, gd_t, nc, nI_add, n_mul, n_sub, ib_nI, up_hit, up_miss, n_le, n_lt, n_eq, n_eq0, n_lt0, n_0le, n_0lt, n_le0, zb_0, zb_1, if_pos, if_neg, ↓reduceIte, Nat.reduceAdd, Nat.reduceMul, Nat.reduceSub, cond_true, h2, h3]
  by_cases q0 : th = 0
  · simp (disch := omega) only [lt_eq, bn_s, bn2_s, gd_t, nc, nI_add, n_mul, n_sub, ib_nI, up_hit, up_miss, n_le, n_lt, n_eq, n_eq0, n_lt0, n_0le, n_0lt, n_le0, zb_0, zb_1, if_pos, if_neg, ↓reduceIte, Nat.reduceAdd, Nat.reduceMul, Nat.reduceSub, q0]
    exact ⟨_, rfl, rfl, hI'⟩
  by_cases q1 : th = 1
  · obtain ⟨⟨kd, kd1, kd2, kd3⟩, hh, _⟩ := h4 q1
    obtain ⟨b, e1, e2⟩ := under_eq (n := n) (f := f) hn kd1 k2
    simp (disch := omega) only [lt_eq, bn_s, bn2_s, gd_t, nc, nI_add, n_mul, n_sub, ib_nI, up_hit, up_miss, n_le, n_lt, n_eq, n_eq0, n_lt0, n_0le, n_0lt, n_le0, zb_0, zb_1, if_pos, if_neg, ↓reduceIte, Nat.reduceAdd, Nat.reduceMul, Nat.reduceSub, q0, q1, kd2, kd3, hh, e1, e2, bI_ite, s2, worth_eq (m := m) (w := m 108 2) rfl]
    obtain ⟨r, hr⟩ := worth_some (n := n) (k := nI kd) (h := m 126 i) (w := m 108 2)
    cases b
    · exact ⟨_, rfl, rfl, hI'⟩
    · simp (disch := omega) only [lt_eq, bn_s, bn2_s, gd_t, nc, nI_add, n_mul, n_sub, ib_nI, up_hit, up_miss, n_le, n_lt, n_eq, n_eq0, n_lt0, n_0le, n_0lt, n_le0, zb_0, zb_1, if_pos, if_neg, ↓reduceIte, Nat.reduceAdd, Nat.reduceMul, Nat.reduceSub, hr, cond_true]
      exact ⟨_, rfl, rfl, hI'⟩
  · simp (disch := omega) only [lt_eq, bn_s, bn2_s, gd_t, nc, nI_add, n_mul, n_sub, ib_nI, up_hit, up_miss, n_le, n_lt, n_eq, n_eq0, n_lt0, n_0le, n_0lt, n_le0, zb_0, zb_1, if_pos, if_neg, ↓reduceIte, Nat.reduceAdd, Nat.reduceMul, Nat.reduceSub, q0, q1]
    exact ⟨_, rfl, rfl, hI'⟩
theorem s_item (hn : 2000 ≤ n) : SP_item Inv n := by
  intro N f m a1 a2 hI
  have hI' := hI
  obtain ⟨hN, hW, hO⟩ := hI
  unfold fX11_item fX12_item
  simp (disch := omega) only [lt_eq, bn_s, bn2_s, gd_t, nc, nI_add, n_mul, n_sub, ib_nI, up_hit, up_miss, n_le, n_lt, n_eq, n_eq0, n_lt0, n_0le, n_0lt, n_le0, zb_0, zb_1, if_pos, if_neg, ↓reduceIte, Nat.reduceAdd, Nat.reduceMul, Nat.reduceSub, c_isSlot, r_isSlot, r_inB, bI_ite]
  cases hb : inB a1 (nI 0) (nI 4)
  · exact ⟨_, rfl, rfl, hI'⟩
  obtain ⟨i, _, i1, rfl⟩ := inB_r (by omega) (by omega) hb
  obtain ⟨th, h1, h2, h3, h4, h5, h6⟩ := hO.2.2.1 i (by omega)
  simp (disch := omega) only [lt_eq, bn_s, bn2_s, gd_t, nc, nI_add, n_mul, n_sub, ib_nI, up_hit, up_miss, n_le, n_lt, n_eq, n_eq0, n_lt0, n_0le, n_0lt, n_le0, zb_0, zb_1, if_pos, if_neg, ↓reduceIte, Nat.reduceAdd, Nat.reduceMul, Nat.reduceSub, cond_true, h2, h3]
  by_cases q0 : th = 0
  · simp (disch := omega) only [lt_eq, bn_s, bn2_s, gd_t, nc, nI_add, n_mul, n_sub, ib_nI, up_hit, up_miss, n_le, n_lt, n_eq, n_eq0, n_lt0, n_0le, n_0lt, n_le0, zb_0, zb_1, if_pos, if_neg, ↓reduceIte, Nat.reduceAdd, Nat.reduceMul, Nat.reduceSub, q0]
    exact ⟨_, rfl, rfl, hI'⟩
  by_cases q1 : th = 2
  · obtain ⟨⟨k, k1, kd2, kd3⟩, hh⟩ := h5 q1
    have kd2 : f (83 + 3 * i + 1) 1 = nI k := by rw [show 83 + 3 * i + 1 = 84 + 3 * i by omega]; exact kd2
    simp (disch := omega) only [lt_eq, bn_s, bn2_s, gd_t, nc, nI_add, n_mul, n_sub, ib_nI, up_hit, up_miss, n_le, n_lt, n_eq, n_eq0, n_lt0, n_0le, n_0lt, n_le0, zb_0, zb_1, if_pos, if_neg, ↓reduceIte, Nat.reduceAdd, Nat.reduceMul, Nat.reduceSub, q0, q1, kd3, c_has5 kd2, bI_ite]
    cases hb2 : inB a2 (nI 0) (nI k - nI 1)
    · exact ⟨_, rfl, rfl, hI'⟩
    obtain ⟨p, p1, rfl⟩ := inB_h (by omega) hb2
    have e3 : f (83 + 3 * i + 1 + 1) p = m 127 (24 * i + p) := by rw [show 83 + 3 * i + 1 + 1 = 85 + 3 * i by omega]; exact hh p (by omega)
    simp (disch := omega) only [lt_eq, bn_s, bn2_s, gd_t, nc, nI_add, n_mul, n_sub, ib_nI, up_hit, up_miss, n_le, n_lt, n_eq, n_eq0, n_lt0, n_0le, n_0lt, n_le0, zb_0, zb_1, if_pos, if_neg, ↓reduceIte, Nat.reduceAdd, Nat.reduceMul, Nat.reduceSub, cond_true, e3]
    split
    · exact ⟨_, rfl, rfl, hI'⟩
    · exact ⟨_, rfl, rfl, hI'⟩
  · simp (disch := omega) only [lt_eq, bn_s, bn2_s, gd_t, nc, nI_add, n_mul, n_sub, ib_nI, up_hit, up_miss, n_le, n_lt, n_eq, n_eq0, n_lt0, n_0le, n_0lt, n_le0, zb_0, zb_1, if_pos, if_neg, ↓reduceIte, Nat.reduceAdd, Nat.reduceMul, Nat.reduceSub, q0, q1]
    exact ⟨_, rfl, rfl, hI'⟩
theorem irm_m1 {x : Int32} : irm x (-1) = 0 := by
  unfold irm
  have : x / -1 = -x := by
    apply Int32.toInt_inj.mp
    rw [Int32.toInt_div, Int32.toInt_neg x, show (-1 : Int32).toInt = -1 from rfl, Int.tdiv_neg, Int.tdiv_one]
  rw [this, Int32.mul_neg, Int32.mul_one, Int32.neg_neg, Int32.sub_self]
theorem s_rest (hn : 2000 ≤ n) : SP_rest Inv n := by
  intro N f m a1 a2 hI
  have hI' := hI
  obtain ⟨hN, hW, hO⟩ := hI
  unfold fX11_rest fX12_rest
  simp (disch := omega) only [lt_eq, bn_s, bn2_s, gd_t, nc, nI_add, n_mul, n_sub, ib_nI, up_hit, up_miss, n_le, n_lt, n_eq, n_eq0, n_lt0, n_0le, n_0lt, n_le0, zb_0, zb_1, if_pos, if_neg, ↓reduceIte, Nat.reduceAdd, Nat.reduceMul, Nat.reduceSub, c_isSlot, r_isSlot, r_inB, bI_ite]
  cases hb : inB a1 (nI 0) (nI 4)
  · exact ⟨_, rfl, rfl, hI'⟩
  obtain ⟨i, _, i1, rfl⟩ := inB_r (by omega) (by omega) hb
  obtain ⟨th, h1, h2, h3, h4, h5, h6⟩ := hO.2.2.1 i (by omega)
  simp (disch := omega) only [lt_eq, bn_s, bn2_s, gd_t, nc, nI_add, n_mul, n_sub, ib_nI, up_hit, up_miss, n_le, n_lt, n_eq, n_eq0, n_lt0, n_0le, n_0lt, n_le0, zb_0, zb_1, if_pos, if_neg, ↓reduceIte, Nat.reduceAdd, Nat.reduceMul, Nat.reduceSub, cond_true, h2, h3]
  by_cases q0 : th = 0
  · simp (disch := omega) only [lt_eq, bn_s, bn2_s, gd_t, nc, nI_add, n_mul, n_sub, ib_nI, up_hit, up_miss, n_le, n_lt, n_eq, n_eq0, n_lt0, n_0le, n_0lt, n_le0, zb_0, zb_1, if_pos, if_neg, ↓reduceIte, Nat.reduceAdd, Nat.reduceMul, Nat.reduceSub, q0]
    exact ⟨_, rfl, rfl, hI'⟩
  by_cases q1 : th = 3
  · have e := h6 q1
    simp (disch := omega) only [lt_eq, bn_s, bn2_s, gd_t, nc, nI_add, n_mul, n_sub, ib_nI, up_hit, up_miss, n_le, n_lt, n_eq, n_eq0, n_lt0, n_0le, n_0lt, n_le0, zb_0, zb_1, if_pos, if_neg, ↓reduceIte, Nat.reduceAdd, Nat.reduceMul, Nat.reduceSub, q0, q1, e]
    by_cases w : a2 = 0
    · simp only [w, if_true]
      exact ⟨_, rfl, rfl, hI'⟩
    · have hz : nz a2 = true := by simp [nz, w]
      simp only [w, if_false, gd_of hz]
      by_cases w2 : a2 = -1
      · simp only [w2, if_true, irm_m1]
        exact ⟨_, rfl, rfl, hI'⟩
      · simp only [w2, if_false]
        exact ⟨_, rfl, rfl, hI'⟩
  · simp (disch := omega) only [lt_eq, bn_s, bn2_s, gd_t, nc, nI_add, n_mul, n_sub, ib_nI, up_hit, up_miss, n_le, n_lt, n_eq, n_eq0, n_lt0, n_0le, n_0lt, n_le0, zb_0, zb_1, if_pos, if_neg, ↓reduceIte, Nat.reduceAdd, Nat.reduceMul, Nat.reduceSub, q0, q1]
    exact ⟨_, rfl, rfl, hI'⟩
end K4
