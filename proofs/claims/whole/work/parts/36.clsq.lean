section CR
variable {N o n : Nat} {f : Mm} {a : Nat → Int32}
theorem c_manyOf (hn : 2000 ≤ n) (h : RW N f o a) {c : Int32} : fX8_manyOf n (o + 9) c f = some (nI (manyOfS a c)) := by
  obtain ⟨h0, nc_, nw, ns, nk, ny, no, nt, h1, h2, h3, h4, h5, h6, h7⟩ := h
  obtain ⟨g1, g2, g3, g4, g5, g6, g7⟩ := h3
  unfold fX8_manyOf manyOfS
  rw [ct_n g3 (by omega), ← smI_cnt]
  have := loopSm (fun q i s => fX8_manyOf_4L n (o + 9) q c s (nI i) f) ns (fun s => bI (decide (a (92 + 4 * s) = c))) some (fun q s => ?_) (fun q i s hi => ?_) n (nI 0) (by omega)
  · simpa only [z_add] using this
  · simp (disch := omega) only [lt_eq, bn_s, bn2_s, gd_t, nc, nI_add, n_mul, n_sub, ib_nI, up_hit, up_miss, n_le, n_lt, n_eq, n_eq0, n_lt0, n_0le, n_0lt, n_le0, zb_0, zb_1, if_pos, if_neg, ↓reduceIte, fX8_manyOf_25, fX8_manyOf_4, fX8_manyOf_4L, g2]
  · obtain ⟨k, hk, ef, ea⟩ := g5 i hi
    have o2 : o + 9 + 2 = o + 11 := rfl
    simp (disch := omega) only [lt_eq, bn_s, bn2_s, gd_t, nc, nI_add, n_mul, n_sub, ib_nI, up_hit, up_miss, n_le, n_lt, n_eq, n_eq0, n_lt0, n_0le, n_0lt, n_le0, zb_0, zb_1, if_pos, if_neg, ↓reduceIte, fX8_manyOf_25, fX8_manyOf_4, fX8_manyOf_4L, g2, o2, ef, ea]
    by_cases q1 : nI k = c
    · simp only [q1, if_true, decide_true, bI_t]
    · simp only [q1, if_false, decide_false, bI_f, add_bf]
theorem c_hasOne (hn : 2000 ≤ n) (h : RW N f o a) {c d : Int32} : fX8_hasOne n (o + 9) c d f = some (bI (hasS a c d)) := by
  obtain ⟨h0, nc_, nw, ns, nk, ny, no, nt, h1, h2, h3, h4, h5, h6, h7⟩ := h
  obtain ⟨g1, g2, g3, g4, g5, g6, g7⟩ := h3
  unfold fX8_hasOne hasS
  rw [ct_n g3 (by omega)]
  refine loopEx (fun q i => fX8_hasOne_2L n (o + 9) q c d (nI i) f) ns _ (fun q => ?_) (fun q i hi => ?_) n (by omega)
  · simp (disch := omega) only [lt_eq, bn_s, bn2_s, gd_t, nc, nI_add, n_mul, n_sub, ib_nI, up_hit, up_miss, n_le, n_lt, n_eq, n_eq0, n_lt0, n_0le, n_0lt, n_le0, zb_0, zb_1, if_pos, if_neg, ↓reduceIte, fX8_hasOne_32, fX8_hasOne_2, fX8_hasOne_2L, g2]
  · obtain ⟨k, hk, ef, ea⟩ := g5 i hi
    have o2 : o + 9 + 2 = o + 11 := rfl
    have o3 : o + 9 + 3 = o + 12 := rfl
    simp (disch := omega) only [lt_eq, bn_s, bn2_s, gd_t, nc, nI_add, n_mul, n_sub, ib_nI, up_hit, up_miss, n_le, n_lt, n_eq, n_eq0, n_lt0, n_0le, n_0lt, n_le0, zb_0, zb_1, if_pos, if_neg, ↓reduceIte, fX8_hasOne_32, fX8_hasOne_2, fX8_hasOne_2L, g2, o2, o3, ef, ea, g6 i hi]
    by_cases q1 : nI k = c
    · by_cases q2 : a (93 + 4 * i) = d <;> simp [q1, q2]
    · simp [q1]
theorem c_heightUpTo (hn : 2000 ≤ n) (h : RW N f o a) {c d : Int32} : fX8_heightUpTo n (o + 9) c d f = some (lineS a c d) := by
  obtain ⟨h0, nc_, nw, ns, nk, ny, no, nt, h1, h2, h3, h4, h5, h6, h7⟩ := h
  obtain ⟨g1, g2, g3, g4, g5, g6, g7⟩ := h3
  unfold fX8_heightUpTo lineS
  rw [ct_n g3 (by omega)]
  have := loopSm (fun q i s => fX8_heightUpTo_5L n (o + 9) q c d s (nI i) f) ns (fun s => if a (92 + 4 * s) = c ∧ a (93 + 4 * s) ≤ d then a (94 + 4 * s) else nI 0) some (fun q s => ?_) (fun q i s hi => ?_) n (nI 0) (by omega)
  · simpa only [z_add] using this
  · simp (disch := omega) only [lt_eq, bn_s, bn2_s, gd_t, nc, nI_add, n_mul, n_sub, ib_nI, up_hit, up_miss, n_le, n_lt, n_eq, n_eq0, n_lt0, n_0le, n_0lt, n_le0, zb_0, zb_1, if_pos, if_neg, ↓reduceIte, fX8_heightUpTo_46, fX8_heightUpTo_5, fX8_heightUpTo_5L, g2]
  · obtain ⟨k, hk, ef, ea⟩ := g5 i hi
    have o2 : o + 9 + 2 = o + 11 := rfl
    have o3 : o + 9 + 3 = o + 12 := rfl
    have o4 : o + 9 + 4 = o + 13 := rfl
    simp (disch := omega) only [lt_eq, bn_s, bn2_s, gd_t, nc, nI_add, n_mul, n_sub, ib_nI, up_hit, up_miss, n_le, n_lt, n_eq, n_eq0, n_lt0, n_0le, n_0lt, n_le0, zb_0, zb_1, if_pos, if_neg, ↓reduceIte, fX8_heightUpTo_46, fX8_heightUpTo_5, fX8_heightUpTo_5L, g2, o2, o3, o4, ef, ea, g6 i hi, (g7 i hi).1]
    by_cases q1 : nI k = c
    · by_cases q2 : a (93 + 4 * i) ≤ d
      · have : ¬ d < a (93 + 4 * i) := Int32.not_lt.mpr q2
        simp [q1, q2, this]
      · have : d < a (93 + 4 * i) := Int32.not_le.mp q2
        simp [q1, q2, this, add_bf]
    · simp [q1, add_bf]
theorem c_lineOf (hn : 2000 ≤ n) (h : RW N f o a) {c : Nat} (hc : c < ct a 6) {d : Int32} : fX10_lineOf n o (nI c) d f = some (a (14 + 3 * c) * d + lineS a (nI c) d) := by
  unfold fX10_lineOf
  have hh := c_heightUpTo hn h (c := nI c) (d := d)
  obtain ⟨h0, nc_, nw, ns, nk, ny, no, nt, h1, h2, h3, h4, h5, h6, h7⟩ := h
  obtain ⟨g1, g2, g3, g4, g5, g6⟩ := h1
  rw [ct_n g3 (by omega)] at hc
  have o1 : o + 1 + 2 = o + 3 := rfl
  simp (disch := omega) only [lt_eq, bn_s, bn2_s, gd_t, nc, nI_add, n_mul, n_sub, ib_nI, up_hit, up_miss, n_le, n_lt, n_eq, n_eq0, n_lt0, n_0le, n_0lt, n_le0, zb_0, zb_1, if_pos, if_neg, ↓reduceIte, hh, o1, g5 c hc]
theorem c_mateSteps (hn : 2000 ≤ n) (h : RW N f o a) {c : Nat} (hc : c < ct a 6) {d : Int32} : fX10_mateSteps n o (nI c) d f = some (bI (if a (15 + 3 * c) < 0 then false else hasS a (a (15 + 3 * c)) d)) := by
  unfold fX10_mateSteps
  have hh := fun x => c_hasOne hn h (c := x) (d := d)
  obtain ⟨h0, nc_, nw, ns, nk, ny, no, nt, h1, h2, h3, h4, h5, h6, h7⟩ := h
  obtain ⟨g1, g2, g3, g4, g5, g6⟩ := h1
  rw [ct_n g3 (by omega)] at hc
  have o1 : o + 1 + 3 = o + 4 := rfl
  rcases g6 c hc with ⟨e1, e2⟩ | ⟨j, hj, _, e1, e2, _⟩
  · have z : (-1 : Int32) < 0 := by decide
    have z2 : NONEi = (-1000000005 : Int32) := rfl
    simp (disch := omega) only [lt_eq, bn_s, bn2_s, gd_t, nc, nI_add, n_mul, n_sub, ib_nI, up_hit, up_miss, n_le, n_lt, n_eq, n_eq0, n_lt0, n_0le, n_0lt, n_le0, zb_0, zb_1, if_pos, if_neg, ↓reduceIte, o1, e1, e2, z, z2]
    rfl
  · have z : ¬ nI j = (-1000000005 : Int32) := by
      intro e
      have := congrArg Int32.toInt e
      rw [nI_toInt (by omega)] at this
      have z3 : (-1000000005 : Int32).toInt = -1000000005 := rfl
      omega
    simp (disch := omega) only [lt_eq, bn_s, bn2_s, gd_t, nc, nI_add, n_mul, n_sub, ib_nI, up_hit, up_miss, n_le, n_lt, n_eq, n_eq0, n_lt0, n_0le, n_0lt, n_le0, zb_0, zb_1, if_pos, if_neg, ↓reduceIte, o1, e1, e2, z, hh, bI_ite]
    cases hasS a (nI j) d <;> rfl
theorem c_stepFits (hn : 2000 ≤ n) (h : RW N f o a) {s : Nat} (hs : s < ct a 8) : fX10_stepFits n o (nI s) f = some (bI (fitS a s)) := by
  have hw := fun c (hc : c < 6) d => c_isWatched hn h hc (d := d)
  have hm := fun c hc d => c_mateSteps hn h (c := c) hc (d := d)
  have hh := h
  obtain ⟨h0, nc_, nw, ns, nk, ny, no, nt, h1, h2, h3, h4, h5, h6, h7⟩ := h
  obtain ⟨g1, g2, g3, g4, g5, g6, g7⟩ := h3
  have hnc := h1.1
  rw [ct_n g3 (by omega)] at hs
  obtain ⟨k, hk, kf, ka⟩ := g4 s hs
  obtain ⟨c, hc, cf, ca⟩ := g5 s hs
  have df := g6 s hs
  obtain ⟨hf, ho⟩ := g7 s hs
  obtain ⟨_, _, s2, s3, _, _, _, _, ⟨w, _, w2, w3⟩, ⟨p, p1, p2⟩, _⟩ := h0
  have cc : ct a (92 + 4 * s) = c := ct_n ca (by omega)
  have c6 : c < ct a 6 := by rw [ct_n h1.2.2.1 (by omega)]; exact hc
  have hin := c_isWithin (n := n) (o := o) (f := f) (a := a) (h := a (94 + 4 * s)) w2 p1 s2 w3 ho
  unfold fX10_stepFits fitS
  rw [cc, ca, p2]
  have o1 : o + 9 + 1 = o + 10 := rfl
  have o2 : o + 9 + 2 = o + 11 := rfl
  have o3 : o + 9 + 3 = o + 12 := rfl
  have o4 : o + 9 + 4 = o + 13 := rfl
  simp (disch := omega) only [lt_eq, bn_s, bn2_s, gd_t, nc, nI_add, n_mul, n_sub, ib_nI, up_hit, up_miss, n_le, n_lt, n_eq, n_eq0, n_lt0, n_0le, n_0lt, n_le0, zb_0, zb_1, if_pos, if_neg, ↓reduceIte, o1, o2, o3, o4, kf, ka, cf, df, hf, s3, p2, hin, bI_ite, hw c (by omega), hm c c6]
  cases htS a (a (94 + 4 * s)) (nI p)
  · simp only [cond_false]
    by_cases q4 : k = 4 <;> simp [q4, bI_f]
  · simp only [cond_true]
    have hk6 : k = 0 ∨ k = 1 ∨ k = 2 ∨ k = 3 ∨ k = 4 ∨ k = 5 := by omega
    rcases hk6 with rfl | rfl | rfl | rfl | rfl | rfl
    · simp [bI_t]
    · by_cases q : a (94 + 4 * s) ≤ 0 <;> simp [q, bI_t, bI_f]
    · simp [bI_t]
    · by_cases q : a (94 + 4 * s) ≤ 0
      · simp [q, bI_f]
      · by_cases q2 : a (15 + 3 * c) < 0
        · simp [q, q2, bI_f]
        · cases hasS a (a (15 + 3 * c)) (a (93 + 4 * s)) <;> simp [q, q2, bI_f, bI_t]
    · simp [bI_f]
    · cases wat a (nI c) (a (93 + 4 * s)) <;> simp [bI_f, bI_t]
theorem c_hasFit (hn : 2000 ≤ n) (h : RW N f o a) {d : Int32} : fX10_hasFit n o d f = some (bI (fitOnS a d)) := by
  have hh := fun s hs => c_stepFits hn h (s := s) hs
  obtain ⟨h0, nc_, nw, ns, nk, ny, no, nt, h1, h2, h3, h4, h5, h6, h7⟩ := h
  obtain ⟨g1, g2, g3, g4, g5, g6, g7⟩ := h3
  have e8 : ct a 8 = ns := ct_n g3 (by omega)
  unfold fX10_hasFit fitOnS
  rw [e8]
  refine loopEx (fun q i => fX10_hasFit_2L n o q d (nI i) f) ns _ (fun q => ?_) (fun q i hi => ?_) n (by omega)
  · simp (disch := omega) only [lt_eq, bn_s, bn2_s, gd_t, nc, nI_add, n_mul, n_sub, ib_nI, up_hit, up_miss, n_le, n_lt, n_eq, n_eq0, n_lt0, n_0le, n_0lt, n_le0, zb_0, zb_1, if_pos, if_neg, ↓reduceIte, fX10_hasFit_36, fX10_hasFit_2, fX10_hasFit_2L, g2]
  · have o3 : o + 9 + 3 = o + 12 := rfl
    simp (disch := omega) only [lt_eq, bn_s, bn2_s, gd_t, nc, nI_add, n_mul, n_sub, ib_nI, up_hit, up_miss, n_le, n_lt, n_eq, n_eq0, n_lt0, n_0le, n_0lt, n_le0, zb_0, zb_1, if_pos, if_neg, ↓reduceIte, fX10_hasFit_36, fX10_hasFit_2, fX10_hasFit_2L, g2, o3, g6 i hi, hh i (by omega), bI_ite]
    by_cases q1 : a (93 + 4 * i) = d
    · cases fitS a i <;> simp [q1]
    · simp [q1]
theorem c_knocksWithin (hn : 2000 ≤ n) (h : RW N f o a) {p : Nat} (hp : p ≤ 99) : fX10_knocksWithin n o (nI p) f = some (nI (fittingS a (nI p))) := by
  obtain ⟨h0, nc_, nw, ns, nk, ny, no, nt, h1, h2, h3, h4, h5, h6, h7⟩ := h
  obtain ⟨g1, g2, g3, g4⟩ := h4
  obtain ⟨_, _, s2, s3, _, _, _, _, ⟨w, _, w2, w3⟩, _⟩ := h0
  unfold fX10_knocksWithin fittingS
  rw [ct_n g3 (by omega), ← smI_cnt]
  have := loopSm (fun q i s => fX10_knocksWithin_4L n o q (nI p) s (nI i) f) nk (fun k => bI (htS a (a (251 + k)) (nI p))) some (fun q s => ?_) (fun q i s hi => ?_) n (nI 0) (by omega)
  · simpa only [z_add] using this
  · simp (disch := omega) only [lt_eq, bn_s, bn2_s, gd_t, nc, nI_add, n_mul, n_sub, ib_nI, up_hit, up_miss, n_le, n_lt, n_eq, n_eq0, n_lt0, n_0le, n_0lt, n_le0, zb_0, zb_1, if_pos, if_neg, ↓reduceIte, fX10_knocksWithin_29, fX10_knocksWithin_4, fX10_knocksWithin_4L, g2]
  · simp (disch := omega) only [lt_eq, bn_s, bn2_s, gd_t, nc, nI_add, n_mul, n_sub, ib_nI, up_hit, up_miss, n_le, n_lt, n_eq, n_eq0, n_lt0, n_0le, n_0lt, n_le0, zb_0, zb_1, if_pos, if_neg, ↓reduceIte, fX10_knocksWithin_29, fX10_knocksWithin_4, fX10_knocksWithin_4L, g2, (g4 i hi).1, c_isWithin w2 hp s2 w3 (g4 i hi).2, bI_ite]
    cases htS a (a (251 + i)) (nI p)
    · simp only [cond_false, bI_f, add_bf]
    · rfl
theorem c_manyOn (hn : 2000 ≤ n) (h : RW N f o a) {d : Int32} : fX7_manyOn n (o + 17) d f = some (nI (keysS a d)) := by
  obtain ⟨h0, nc_, nw, ns, nk, ny, no, nt, h1, h2, h3, h4, h5, h6, h7⟩ := h
  obtain ⟨g1, g2, g3, g4, g5, g6⟩ := h5
  unfold fX7_manyOn keysS
  rw [ct_n g3 (by omega), ← smI_cnt]
  have := loopSm (fun q i s => fX7_manyOn_4L n (o + 17) q d s (nI i) f) ny (fun k => bI (keyOn a k d)) some (fun q s => ?_) (fun q i s hi => ?_) n (nI 0) (by omega)
  · simpa only [z_add] using this
  · simp (disch := omega) only [lt_eq, bn_s, bn2_s, gd_t, nc, nI_add, n_mul, n_sub, ib_nI, up_hit, up_miss, n_le, n_lt, n_eq, n_eq0, n_lt0, n_0le, n_0lt, n_le0, zb_0, zb_1, if_pos, if_neg, ↓reduceIte, fX7_manyOn_35, fX7_manyOn_4, fX7_manyOn_4L, g2]
  · have o2 : o + 17 + 2 = o + 19 := rfl
    have o3 : o + 17 + 3 = o + 20 := rfl
    simp (disch := omega) only [lt_eq, bn_s, bn2_s, gd_t, nc, nI_add, n_mul, n_sub, ib_nI, up_hit, up_miss, n_le, n_lt, n_eq, n_eq0, n_lt0, n_0le, n_0lt, n_le0, zb_0, zb_1, if_pos, if_neg, ↓reduceIte, fX7_manyOn_35, fX7_manyOn_4, fX7_manyOn_4L, g2, o2, o3, g5 i hi, g6 i hi, keyOn]
    by_cases q1 : d < a (311 + 2 * i)
    · have q1' : ¬ a (311 + 2 * i) ≤ d := Int32.not_le.mpr q1
      simp only [q1, if_true, q1', decide_false, Bool.false_and, bI_f, add_bf]
    · have q1' : a (311 + 2 * i) ≤ d := Int32.not_lt.mp q1
      by_cases q2 : a (312 + 2 * i) < d
      · have q2' : ¬ d ≤ a (312 + 2 * i) := Int32.not_le.mpr q2
        simp only [q1, q2, if_true, if_false, q2', decide_false, Bool.and_false, bI_f, add_bf]
      · have q2' : d ≤ a (312 + 2 * i) := Int32.not_lt.mp q2
        simp only [q1, q2, if_false, q1', q2', decide_true, Bool.and_true, bI_t]
end CR
section CS
variable {N n : Nat} {f : Mm} {a : Nat → Int32}
theorem c_fit (hn : 2000 ≤ n) (h : RW N f 1 a) : fX11_fit n f = some (nI (fitAllS a)) := by
  have hh := fun s hs => c_stepFits hn h (s := s) hs
  obtain ⟨h0, nc_, nw, ns, nk, ny, no, nt, h1, h2, h3, h4, h5, h6, h7⟩ := h
  obtain ⟨g1, g2, g3, g4, g5, g6, g7⟩ := h3
  have e8 : ct a 8 = ns := ct_n g3 (by omega)
  have g2 : f 10 4 = nI ns := g2
  unfold fX11_fit fitAllS
  rw [e8, ← smI_cnt]
  have := loopSm (fun q i s => fX11_fit_4L n q s (nI i) f) ns (fun k => bI (fitS a k)) some (fun q s => ?_) (fun q i s hi => ?_) n (nI 0) (by omega)
  · simpa only [z_add] using this
  · simp (disch := omega) only [lt_eq, bn_s, bn2_s, gd_t, nc, nI_add, n_mul, n_sub, ib_nI, up_hit, up_miss, n_le, n_lt, n_eq, n_eq0, n_lt0, n_0le, n_0lt, n_le0, zb_0, zb_1, if_pos, if_neg, ↓reduceIte, fX11_fit_32, fX11_fit_4, fX11_fit_4L, g2]
  · simp (disch := omega) only [lt_eq, bn_s, bn2_s, gd_t, nc, nI_add, n_mul, n_sub, ib_nI, up_hit, up_miss, n_le, n_lt, n_eq, n_eq0, n_lt0, n_0le, n_0lt, n_le0, zb_0, zb_1, if_pos, if_neg, ↓reduceIte, fX11_fit_32, fX11_fit_4, fX11_fit_4L, g2, hh i (by omega), bI_ite]
    cases fitS a i
    · simp only [cond_false, bI_f, add_bf]
    · rfl
theorem keysS_lt (h : RW N f 1 a) {d : Int32} : keysS a d < 2147483648 := by
  obtain ⟨h0, nc_, nw, ns, nk, ny, no, nt, h1, h2, h3, h4, h5, h6, h7⟩ := h
  obtain ⟨g1, g2, g3, g4, g5, g6⟩ := h5
  unfold keysS
  have := cnt_le (p := fun k => keyOn a k d) (ct a 11)
  rw [ct_n g3 (by omega)] at *
  omega
theorem c_jokes (hn : 2000 ≤ n) (h : RW N f 1 a) : fX11_jokes n f = some (nI (jokesS a)) := by
  have hh := fun s hs => c_stepFits hn h (s := s) hs
  have hm := fun d => c_manyOn hn h (d := d)
  have hkl := fun d => keysS_lt h (d := d)
  obtain ⟨h0, nc_, nw, ns, nk, ny, no, nt, h1, h2, h3, h4, h5, h6, h7⟩ := h
  obtain ⟨g1, g2, g3, g4, g5, g6, g7⟩ := h3
  have e8 : ct a 8 = ns := ct_n g3 (by omega)
  have g2 : f 10 4 = nI ns := g2
  unfold fX11_jokes jokesS
  rw [e8, ← smI_cnt]
  have := loopSm (fun q i s => fX11_jokes_4L n q s (nI i) f) ns (fun j => bI (decide (0 < keysS a (a (93 + 4 * j))) && fitS a j)) some (fun q s => ?_) (fun q i s hi => ?_) n (nI 0) (by omega)
  · simpa only [z_add] using this
  · simp (disch := omega) only [lt_eq, bn_s, bn2_s, gd_t, nc, nI_add, n_mul, n_sub, ib_nI, up_hit, up_miss, n_le, n_lt, n_eq, n_eq0, n_lt0, n_0le, n_0lt, n_le0, zb_0, zb_1, if_pos, if_neg, ↓reduceIte, fX11_jokes_57, fX11_jokes_4, fX11_jokes_4L, g2]
  · have g6i : f 13 i = a (93 + 4 * i) := g6 i hi
    have hm' := hm (a (93 + 4 * i))
    have hm' : fX7_manyOn n 18 (a (93 + 4 * i)) f = some (nI (keysS a (a (93 + 4 * i)))) := hm'
    have hkl' := hkl (a (93 + 4 * i))
    simp (disch := omega) only [lt_eq, bn_s, bn2_s, gd_t, nc, nI_add, n_mul, n_sub, ib_nI, up_hit, up_miss, n_le, n_lt, n_eq, n_eq0, n_lt0, n_0le, n_0lt, n_le0, zb_0, zb_1, if_pos, if_neg, ↓reduceIte, fX11_jokes_57, fX11_jokes_4, fX11_jokes_4L, g2, g6i, hm', hh i (by omega), bI_ite]
    by_cases q1 : keysS a (a (93 + 4 * i)) = 0
    · simp [q1, bI_f, add_bf]
    · have q2 : 0 < keysS a (a (93 + 4 * i)) := by omega
      cases fitS a i <;> simp [q1, q2, bI_f, bI_t, add_bf]
end CS
