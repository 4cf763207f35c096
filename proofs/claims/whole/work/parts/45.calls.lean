theorem ite_in {α : Type} {x hi : Int32} {y z : α} : (if x < 0 then y else if hi < x then y else z) = bif inB x (nI 0) hi then z else y := by
  unfold inB
  by_cases q1 : x < 0
  · rw [if_pos q1, decide_eq_false (show ¬ nI 0 ≤ x from Int32.not_le.mpr q1)]; rfl
  · rw [if_neg q1, decide_eq_true (show nI 0 ≤ x from Int32.not_lt.mp q1)]
    by_cases q2 : hi < x
    · rw [if_pos q2, decide_eq_false (Int32.not_le.mpr q2)]; rfl
    · rw [if_neg q2, decide_eq_true (Int32.not_lt.mp q2)]; rfl
theorem ite_in2 {α : Type} {x hi : Int32} {y z : α} : (if x < 0 then y else if x ≤ hi then z else y) = bif inB x (nI 0) hi then z else y := by
  unfold inB
  by_cases q1 : x < 0
  · rw [if_pos q1, decide_eq_false (show ¬ nI 0 ≤ x from Int32.not_le.mpr q1)]; rfl
  · rw [if_neg q1, decide_eq_true (show nI 0 ≤ x from Int32.not_lt.mp q1)]
    by_cases q2 : x ≤ hi
    · rw [if_pos q2, decide_eq_true q2]; rfl
    · rw [if_neg q2, decide_eq_false q2]; rfl
theorem ite_inL {α : Type} {x lo hi : Int32} {y z : α} : (if x < lo then y else if x ≤ hi then z else y) = bif inB x lo hi then z else y := by
  unfold inB
  by_cases q1 : x < lo
  · rw [if_pos q1, decide_eq_false (Int32.not_le.mpr q1)]; rfl
  · rw [if_neg q1, decide_eq_true (Int32.not_lt.mp q1)]
    by_cases q2 : x ≤ hi
    · rw [if_pos q2, decide_eq_true q2]; rfl
    · rw [if_neg q2, decide_eq_false q2]; rfl
theorem under_eq {n k t : Nat} {f : Mm} (hn : 2000 ≤ n) (hk : k ≤ 5) (ht : t ≤ 5) : ∃ b, fX11_isUnder n (nI k) (nI t) f = some (bI b) ∧ fX12_isUnder n (nI k) (nI t) = some (bI b) := by
  obtain ⟨q, rfl⟩ : ∃ q, n = q + 7 := ⟨n - 7, by omega⟩
  have hk' : k = 0 ∨ k = 1 ∨ k = 2 ∨ k = 3 ∨ k = 4 ∨ k = 5 := by omega
  have ht' : t = 0 ∨ t = 1 ∨ t = 2 ∨ t = 3 ∨ t = 4 ∨ t = 5 := by omega
  rcases hk' with rfl | rfl | rfl | rfl | rfl | rfl <;> rcases ht' with rfl | rfl | rfl | rfl | rfl | rfl <;> first | exact ⟨true, rfl, rfl⟩ | exact ⟨false, rfl, rfl⟩
theorem r_size {n : Nat} {h : Int32} : fX12_size n h = some (szS h) := by
  unfold fX12_size szS
  split <;> rfl
theorem worth_eq {n : Nat} {k h w : Int32} {m : Mm} (e : m 108 2 = w) : fX12_worthBy n k h m = fX11_worthOf n k h w := by
  unfold fX12_worthBy fX11_worthOf
  rw [r_size, abs_sz]
  simp (disch := omega) only [lt_eq, bn_s, bn2_s, gd_t, nc, nI_add, n_mul, n_sub, ib_nI, up_hit, up_miss, n_le, n_lt, n_eq, n_eq0, n_lt0, n_0le, n_0lt, n_le0, zb_0, zb_1, if_pos, if_neg, ↓reduceIte, e]
theorem worth_some {n : Nat} {k h w : Int32} : ∃ r, fX11_worthOf n k h w = some r := by
  unfold fX11_worthOf
  repeat' split
  all_goals exact ⟨_, rfl⟩
section K3
variable {n : Nat}
/-- a step comes, in both worlds -/
theorem add_sim {N o nC nw ns nk ny no nt : Nat} {f m : Mm} {k c : Nat} {d h : Int32} (h0 : cSc f o (m 108)) (h1 : cCo f o (m 108) nC) (h2 : cWa f o (m 108) nC nw) (h3 : cSt f o (m 108) nC ns) (h4 : cKn f o (m 108) nk) (h5 : cKy f o (m 108) ny) (h6 : cOf f o (m 108) no) (h7 : cLw N f o (m 108) nt) (ho : o + 24 ≤ 130)
    (hk : k ≤ 5) (hc : c < nC) (hh : hOK h) (hs : ns < 40) :
    ∃ f' m', fX8_add n (o + 9) (nI k) (nI c) d h f = some (nI ns, f') ∧ fX12_comes n (nI k) (nI c) d h m = some m' ∧ m' 108 8 = nI (ns + 1) ∧ RW N f' o (m' 108) ∧ (∀ j, j < o + 9 ∨ o + 13 < j → f' j = f j) ∧ (∀ j, j ≠ 108 → m' j = m j) ∧ (∀ i, i < 8 → m' 108 i = m 108 i) ∧ m' 108 10 = m 108 10 := by
  obtain ⟨g1, g2, g3, g4, g5, g6, g7⟩ := h3
  have e1 : 91 + 4 * ns + 1 = 92 + 4 * ns := by omega
  have e2 : 91 + 4 * ns + 2 = 93 + 4 * ns := by omega
  have e3 : 91 + 4 * ns + 3 = 94 + 4 * ns := by omega
  have o1 : o + 9 + 1 = o + 10 := rfl
  have o2 : o + 9 + 2 = o + 11 := rfl
  have o3 : o + 9 + 3 = o + 12 := rfl
  have o4 : o + 9 + 4 = o + 13 := rfl
  have e4 : ns + 1 - 1 = ns := rfl
  unfold fX8_add fX8_isFull fX12_comes
  simp (disch := omega) only [lt_eq, bn_s, bn2_s, gd_t, nc, nI_add, n_mul, n_sub, ib_nI, up_hit, up_miss, n_le, n_lt, n_eq, n_eq0, n_lt0, n_0le, n_0lt, n_le0, zb_0, zb_1, if_pos, if_neg, ↓reduceIte, Nat.reduceAdd, Nat.reduceMul, Nat.reduceSub, g2, g3, e1, e2, e3, o1, o2, o3, o4, e4]
  refine ⟨_, _, rfl, rfl, up_hit, ?_, fun j hj => by (simp (disch := omega) only [up_rn]), fun j hj => by (simp (disch := omega) only [up_rn]), fun i hi => by (simp (disch := omega) only [up_miss]), by (simp (disch := omega) only [up_miss])⟩
  refine putSt (ns' := ns + 1) h0 h1 h2 h4 h5 h6 h7 ⟨by omega, up_hit, up_hit, fun i hi => ?_, fun i hi => ?_, fun i hi => ?_, fun i hi => ?_⟩ (by (simp (disch := omega) only [up_rn])) (fun k k1 k2 k3 k4 k5 k6 k7 => by (simp (disch := omega) only [up_rn])) (fun i hi => by (simp (disch := omega) only [up_miss])) (lwSame.of (fun k hk => by (simp (disch := omega) only [up_rn])))
  · by_cases w : i = ns
    · subst w
      exact ⟨k, hk, by simp (disch := omega) only [lt_eq, bn_s, bn2_s, gd_t, nc, nI_add, n_mul, n_sub, ib_nI, up_hit, up_miss, n_le, n_lt, n_eq, n_eq0, n_lt0, n_0le, n_0lt, n_le0, zb_0, zb_1, if_pos, if_neg, ↓reduceIte, Nat.reduceAdd, Nat.reduceMul, Nat.reduceSub], by simp (disch := omega) only [lt_eq, bn_s, bn2_s, gd_t, nc, nI_add, n_mul, n_sub, ib_nI, up_hit, up_miss, n_le, n_lt, n_eq, n_eq0, n_lt0, n_0le, n_0lt, n_le0, zb_0, zb_1, if_pos, if_neg, ↓reduceIte, Nat.reduceAdd, Nat.reduceMul, Nat.reduceSub]⟩
    · obtain ⟨s, s1, s3, s4⟩ := g4 i (by omega)
      exact ⟨s, s1, by simp (disch := omega) only [lt_eq, bn_s, bn2_s, gd_t, nc, nI_add, n_mul, n_sub, ib_nI, up_hit, up_miss, n_le, n_lt, n_eq, n_eq0, n_lt0, n_0le, n_0lt, n_le0, zb_0, zb_1, if_pos, if_neg, ↓reduceIte, Nat.reduceAdd, Nat.reduceMul, Nat.reduceSub, s3], by simp (disch := omega) only [lt_eq, bn_s, bn2_s, gd_t, nc, nI_add, n_mul, n_sub, ib_nI, up_hit, up_miss, n_le, n_lt, n_eq, n_eq0, n_lt0, n_0le, n_0lt, n_le0, zb_0, zb_1, if_pos, if_neg, ↓reduceIte, Nat.reduceAdd, Nat.reduceMul, Nat.reduceSub, s4]⟩
  · by_cases w : i = ns
    · subst w
      exact ⟨c, hc, by simp (disch := omega) only [lt_eq, bn_s, bn2_s, gd_t, nc, nI_add, n_mul, n_sub, ib_nI, up_hit, up_miss, n_le, n_lt, n_eq, n_eq0, n_lt0, n_0le, n_0lt, n_le0, zb_0, zb_1, if_pos, if_neg, ↓reduceIte, Nat.reduceAdd, Nat.reduceMul, Nat.reduceSub], by simp (disch := omega) only [lt_eq, bn_s, bn2_s, gd_t, nc, nI_add, n_mul, n_sub, ib_nI, up_hit, up_miss, n_le, n_lt, n_eq, n_eq0, n_lt0, n_0le, n_0lt, n_le0, zb_0, zb_1, if_pos, if_neg, ↓reduceIte, Nat.reduceAdd, Nat.reduceMul, Nat.reduceSub]⟩
    · obtain ⟨s, s1, s3, s4⟩ := g5 i (by omega)
      exact ⟨s, s1, by simp (disch := omega) only [lt_eq, bn_s, bn2_s, gd_t, nc, nI_add, n_mul, n_sub, ib_nI, up_hit, up_miss, n_le, n_lt, n_eq, n_eq0, n_lt0, n_0le, n_0lt, n_le0, zb_0, zb_1, if_pos, if_neg, ↓reduceIte, Nat.reduceAdd, Nat.reduceMul, Nat.reduceSub, s3], by simp (disch := omega) only [lt_eq, bn_s, bn2_s, gd_t, nc, nI_add, n_mul, n_sub, ib_nI, up_hit, up_miss, n_le, n_lt, n_eq, n_eq0, n_lt0, n_0le, n_0lt, n_le0, zb_0, zb_1, if_pos, if_neg, ↓reduceIte, Nat.reduceAdd, Nat.reduceMul, Nat.reduceSub, s4]⟩
  · by_cases w : i = ns
    · subst w
      simp (disch := omega) only [lt_eq, bn_s, bn2_s, gd_t, nc, nI_add, n_mul, n_sub, ib_nI, up_hit, up_miss, n_le, n_lt, n_eq, n_eq0, n_lt0, n_0le, n_0lt, n_le0, zb_0, zb_1, if_pos, if_neg, ↓reduceIte, Nat.reduceAdd, Nat.reduceMul, Nat.reduceSub]
    · have := g6 i (by omega)
      simp (disch := omega) only [lt_eq, bn_s, bn2_s, gd_t, nc, nI_add, n_mul, n_sub, ib_nI, up_hit, up_miss, n_le, n_lt, n_eq, n_eq0, n_lt0, n_0le, n_0lt, n_le0, zb_0, zb_1, if_pos, if_neg, ↓reduceIte, Nat.reduceAdd, Nat.reduceMul, Nat.reduceSub, this]
  · by_cases w : i = ns
    · subst w
      exact ⟨by simp (disch := omega) only [lt_eq, bn_s, bn2_s, gd_t, nc, nI_add, n_mul, n_sub, ib_nI, up_hit, up_miss, n_le, n_lt, n_eq, n_eq0, n_lt0, n_0le, n_0lt, n_le0, zb_0, zb_1, if_pos, if_neg, ↓reduceIte, Nat.reduceAdd, Nat.reduceMul, Nat.reduceSub], by simp (disch := omega) only [lt_eq, bn_s, bn2_s, gd_t, nc, nI_add, n_mul, n_sub, ib_nI, up_hit, up_miss, n_le, n_lt, n_eq, n_eq0, n_lt0, n_0le, n_0lt, n_le0, zb_0, zb_1, if_pos, if_neg, ↓reduceIte, Nat.reduceAdd, Nat.reduceMul, Nat.reduceSub]; exact hh⟩
    · have := g7 i (by omega)
      exact ⟨by simp (disch := omega) only [lt_eq, bn_s, bn2_s, gd_t, nc, nI_add, n_mul, n_sub, ib_nI, up_hit, up_miss, n_le, n_lt, n_eq, n_eq0, n_lt0, n_0le, n_0lt, n_le0, zb_0, zb_1, if_pos, if_neg, ↓reduceIte, Nat.reduceAdd, Nat.reduceMul, Nat.reduceSub, this.1], by simp (disch := omega) only [lt_eq, bn_s, bn2_s, gd_t, nc, nI_add, n_mul, n_sub, ib_nI, up_hit, up_miss, n_le, n_lt, n_eq, n_eq0, n_lt0, n_0le, n_0lt, n_le0, zb_0, zb_1, if_pos, if_neg, ↓reduceIte, Nat.reduceAdd, Nat.reduceMul, Nat.reduceSub]; exact this.2⟩
theorem s_step (hn : 2000 ≤ n) : SP_step Inv n := by
  intro N f m a1 a2 a3 a4 hI
  have hI' := hI
  obtain ⟨hN, ⟨h0, nC, nw, ns, nk, ny, no, nt, h1, h2, h3, h4, h5, h6, h7⟩, hO⟩ := hI
  have hc2 : f 2 3 = nI nC := h1.2.1
  have hc3 : m 108 6 = nI nC := h1.2.2.1
  have hc6 := h1.1
  have g2 : f 10 4 = nI ns := h3.2.1
  have g3 : m 108 8 = nI ns := h3.2.2.1
  have g1 := h3.1
  have s0 : f 1 0 = m 108 1 := h0.1
  unfold fX11_step fX12_step
  simp (disch := omega) only [lt_eq, bn_s, bn2_s, gd_t, nc, nI_add, n_mul, n_sub, ib_nI, up_hit, up_miss, n_le, n_lt, n_eq, n_eq0, n_lt0, n_0le, n_0lt, n_le0, zb_0, zb_1, if_pos, if_neg, ↓reduceIte, Nat.reduceAdd, Nat.reduceMul, Nat.reduceSub, c_isKind, c_has1 hc2, r_isCoil, hc3, r_inB, c_isHeight, bI_ite, s0, ite_in]
  cases hb : inB a1 (nI 0) (nI 5)
  · exact ⟨_, f, m, rfl, rfl, hI'⟩
  obtain ⟨k, _, k2, rfl⟩ := inB_r (by omega) (by omega) hb
  cases hb2 : inB a2 (nI 0) (nI nC - nI 1)
  · exact ⟨_, f, m, rfl, rfl, hI'⟩
  obtain ⟨c, c1, rfl⟩ := inB_h (by omega) hb2
  cases hb3 : inB a3 (nI 0) (m 108 1)
  · exact ⟨_, f, m, rfl, rfl, hI'⟩
  cases hb4 : inB a4 (-999) (nI 999)
  · exact ⟨_, f, m, rfl, rfl, hI'⟩
  simp only [cond_true]
  by_cases q : ns = 40
  · simp (disch := omega) only [lt_eq, bn_s, bn2_s, gd_t, nc, nI_add, n_mul, n_sub, ib_nI, up_hit, up_miss, n_le, n_lt, n_eq, n_eq0, n_lt0, n_0le, n_0lt, n_le0, zb_0, zb_1, if_pos, if_neg, ↓reduceIte, Nat.reduceAdd, Nat.reduceMul, Nat.reduceSub, q, g2, g3, fX8_add, fX8_isFull]
    exact ⟨_, f, m, rfl, rfl, hI'⟩
  · obtain ⟨f', m', e1, e2, e3, e4, e5, e6, e8, _⟩ := add_sim (n := n) (d := a3) (h := a4) h0 h1 h2 h3 h4 h5 h6 h7 (by omega) k2 c1 (hOK_of hb4) (by omega)
    have e1 : fX8_add n 10 (nI k) (nI c) a3 a4 f = some (nI ns, f') := e1
    have e7 : ns + 1 - 1 = ns := rfl
    simp (disch := omega) only [lt_eq, bn_s, bn2_s, gd_t, nc, nI_add, n_mul, n_sub, ib_nI, up_hit, up_miss, n_le, n_lt, n_eq, n_eq0, n_lt0, n_0le, n_0lt, n_le0, zb_0, zb_1, if_pos, if_neg, ↓reduceIte, Nat.reduceAdd, Nat.reduceMul, Nat.reduceSub, q, g2, g3, e1, e2, e3, e7]
    exact ⟨_, _, _, rfl, rfl, hI'.w e4 (fun j hj => e5 j (by omega)) (lwSame.of (fun j hj => e5 j (by omega))) (fun j j1 _ _ _ _ _ => e6 j j1) (e8 1 (by omega))⟩
theorem s_turns (hn : 2000 ≤ n) : SP_turns Inv n := by
  intro N f m a1 a2 hI
  have hI' := hI
  obtain ⟨hN, ⟨h0, nC, nw, ns, nk, ny, no, nt, h1, h2, h3, h4, h5, h6, h7⟩, hO⟩ := hI
  obtain ⟨g1, g2, g3, g4, g5, g6, g7⟩ := h3
  have g2 : f 10 4 = nI ns := g2
  unfold fX11_turns fX12_turns
  simp (disch := omega) only [lt_eq, bn_s, bn2_s, gd_t, nc, nI_add, n_mul, n_sub, ib_nI, up_hit, up_miss, n_le, n_lt, n_eq, n_eq0, n_lt0, n_0le, n_0lt, n_le0, zb_0, zb_1, if_pos, if_neg, ↓reduceIte, Nat.reduceAdd, Nat.reduceMul, Nat.reduceSub, c_has8 g2, r_isStep, g3, r_inB, c_isKind, bI_ite]
  cases hb : inB a1 (nI 0) (nI ns - nI 1)
  · exact ⟨_, f, m, rfl, rfl, hI'⟩
  obtain ⟨j, j1, rfl⟩ := inB_h (by omega) hb
  cases hb2 : inB a2 (nI 0) (nI 5)
  · exact ⟨_, f, m, rfl, rfl, hI'⟩
  obtain ⟨k, _, k2, rfl⟩ := inB_r (by omega) (by omega) hb2
  obtain ⟨s, s1, s3, s4⟩ := g4 j j1
  have s3 : f 11 j = nI s := s3
  simp (disch := omega) only [lt_eq, bn_s, bn2_s, gd_t, nc, nI_add, n_mul, n_sub, ib_nI, up_hit, up_miss, n_le, n_lt, n_eq, n_eq0, n_lt0, n_0le, n_0lt, n_le0, zb_0, zb_1, if_pos, if_neg, ↓reduceIte, Nat.reduceAdd, Nat.reduceMul, Nat.reduceSub, cond_true, r_step4, s3, s4]
  refine ⟨_, _, _, rfl, rfl, hI'.w ?_ (fun k hk => by (simp (disch := omega) only [up_rn])) (lwSame.of (fun k hk => by (simp (disch := omega) only [up_rn]))) (fun k k1 _ _ _ _ _ => by (simp (disch := omega) only [up_rn])) (by (simp (disch := omega) only [up_miss]))⟩
  refine putSt (ns' := ns) h0 h1 h2 h4 h5 h6 h7 ⟨g1, by simp (disch := omega) only [lt_eq, bn_s, bn2_s, gd_t, nc, nI_add, n_mul, n_sub, ib_nI, up_hit, up_miss, n_le, n_lt, n_eq, n_eq0, n_lt0, n_0le, n_0lt, n_le0, zb_0, zb_1, if_pos, if_neg, ↓reduceIte, Nat.reduceAdd, Nat.reduceMul, Nat.reduceSub, g2], by simp (disch := omega) only [lt_eq, bn_s, bn2_s, gd_t, nc, nI_add, n_mul, n_sub, ib_nI, up_hit, up_miss, n_le, n_lt, n_eq, n_eq0, n_lt0, n_0le, n_0lt, n_le0, zb_0, zb_1, if_pos, if_neg, ↓reduceIte, Nat.reduceAdd, Nat.reduceMul, Nat.reduceSub, g3], fun i hi => ?_, fun i hi => ?_, fun i hi => ?_, fun i hi => ?_⟩ (by (simp (disch := omega) only [up_rn])) (fun k k1 k2 k3 k4 k5 k6 k7 => by (simp (disch := omega) only [up_rn])) (fun i hi => by (simp (disch := omega) only [up_miss])) (lwSame.of (fun k hk => by (simp (disch := omega) only [up_rn])))
  · by_cases w : i = j
    · subst w
      exact ⟨k, k2, by simp (disch := omega) only [lt_eq, bn_s, bn2_s, gd_t, nc, nI_add, n_mul, n_sub, ib_nI, up_hit, up_miss, n_le, n_lt, n_eq, n_eq0, n_lt0, n_0le, n_0lt, n_le0, zb_0, zb_1, if_pos, if_neg, ↓reduceIte, Nat.reduceAdd, Nat.reduceMul, Nat.reduceSub], by simp (disch := omega) only [lt_eq, bn_s, bn2_s, gd_t, nc, nI_add, n_mul, n_sub, ib_nI, up_hit, up_miss, n_le, n_lt, n_eq, n_eq0, n_lt0, n_0le, n_0lt, n_le0, zb_0, zb_1, if_pos, if_neg, ↓reduceIte, Nat.reduceAdd, Nat.reduceMul, Nat.reduceSub]⟩
    · obtain ⟨s, s1, s3, s4⟩ := g4 i hi
      have s3 : f 11 i = nI s := s3
      exact ⟨s, s1, by simp (disch := omega) only [lt_eq, bn_s, bn2_s, gd_t, nc, nI_add, n_mul, n_sub, ib_nI, up_hit, up_miss, n_le, n_lt, n_eq, n_eq0, n_lt0, n_0le, n_0lt, n_le0, zb_0, zb_1, if_pos, if_neg, ↓reduceIte, Nat.reduceAdd, Nat.reduceMul, Nat.reduceSub, s3], by simp (disch := omega) only [lt_eq, bn_s, bn2_s, gd_t, nc, nI_add, n_mul, n_sub, ib_nI, up_hit, up_miss, n_le, n_lt, n_eq, n_eq0, n_lt0, n_0le, n_0lt, n_le0, zb_0, zb_1, if_pos, if_neg, ↓reduceIte, Nat.reduceAdd, Nat.reduceMul, Nat.reduceSub, s4]⟩
  · obtain ⟨s, s1, s3, s4⟩ := g5 i hi
    have s3 : f 12 i = nI s := s3
    exact ⟨s, s1, by simp (disch := omega) only [lt_eq, bn_s, bn2_s, gd_t, nc, nI_add, n_mul, n_sub, ib_nI, up_hit, up_miss, n_le, n_lt, n_eq, n_eq0, n_lt0, n_0le, n_0lt, n_le0, zb_0, zb_1, if_pos, if_neg, ↓reduceIte, Nat.reduceAdd, Nat.reduceMul, Nat.reduceSub, s3], by simp (disch := omega) only [lt_eq, bn_s, bn2_s, gd_t, nc, nI_add, n_mul, n_sub, ib_nI, up_hit, up_miss, n_le, n_lt, n_eq, n_eq0, n_lt0, n_0le, n_0lt, n_le0, zb_0, zb_1, if_pos, if_neg, ↓reduceIte, Nat.reduceAdd, Nat.reduceMul, Nat.reduceSub, s4]⟩
  · have : f 13 i = m 108 (93 + 4 * i) := g6 i hi
    simp (disch := omega) only [lt_eq, bn_s, bn2_s, gd_t, nc, nI_add, n_mul, n_sub, ib_nI, up_hit, up_miss, n_le, n_lt, n_eq, n_eq0, n_lt0, n_0le, n_0lt, n_le0, zb_0, zb_1, if_pos, if_neg, ↓reduceIte, Nat.reduceAdd, Nat.reduceMul, Nat.reduceSub, this]
  · have : f 14 i = m 108 (94 + 4 * i) := (g7 i hi).1
    exact ⟨by simp (disch := omega) only [lt_eq, bn_s, bn2_s, gd_t, nc, nI_add, n_mul, n_sub, ib_nI, up_hit, up_miss, n_le, n_lt, n_eq, n_eq0, n_lt0, n_0le, n_0lt, n_le0, zb_0, zb_1, if_pos, if_neg, ↓reduceIte, Nat.reduceAdd, Nat.reduceMul, Nat.reduceSub, this], by simp (disch := omega) only [lt_eq, bn_s, bn2_s, gd_t, nc, nI_add, n_mul, n_sub, ib_nI, up_hit, up_miss, n_le, n_lt, n_eq, n_eq0, n_lt0, n_0le, n_0lt, n_le0, zb_0, zb_1, if_pos, if_neg, ↓reduceIte, Nat.reduceAdd, Nat.reduceMul, Nat.reduceSub]; exact (g7 i hi).2⟩
theorem s_set (hn : 2000 ≤ n) : SP_set Inv n := by
  intro N f m a1 a2 hI
  have hI' := hI
  obtain ⟨hN, ⟨h0, nC, nw, ns, nk, ny, no, nt, h1, h2, h3, h4, h5, h6, h7⟩, hO⟩ := hI
  obtain ⟨s0, s1, s2, s3, s4, s5, s6, s7, s8, s9, s10⟩ := h0
  unfold fX11_set fX12_set
  have e : (if a1 < 0 then some ((-1000000001 : Int32), f) else if nI 4 ≤ a1 then some ((-1000000001 : Int32), f) else if a1 < nI 4 then
      gd (ib a1 4) (if a2 < (([1, 0, 0, 0] : List Int32).getD a1.toNatClampNeg 0) then some ((-1000000001 : Int32), f) else gd (ib a1 4) (if a2 ≤ (([999, 99, 10000, 1] : List Int32).getD a1.toNatClampNeg 0) then bn2 (fX10_change n 1 a1 a2 f) fun r22 f21 => some (r22, f21) else some ((-1000000001 : Int32), f))) else some ((-1000000001 : Int32), f)) = bif inB a1 (nI 0) (nI 3) then gd (ib a1 4) (bif inB a2 (([1, 0, 0, 0] : List Int32).getD a1.toNatClampNeg 0) (([999, 99, 10000, 1] : List Int32).getD a1.toNatClampNeg 0) then gd (ib a1 4) (bn2 (fX10_change n 1 a1 a2 f) fun r22 f21 => some (r22, f21)) else some ((-1000000001 : Int32), f)) else some ((-1000000001 : Int32), f) := by
    cases hb : inB a1 (nI 0) (nI 3)
    · rcases pk_ix a1 (n := 4) (by omega) with q | q | ⟨j, hj, rfl⟩
      · rw [if_pos q]; rfl
      · by_cases q1 : a1 < 0
        · rw [if_pos q1]; rfl
        · rw [if_neg q1, if_pos q]; rfl
      · have : inB (nI j) (nI 0) (nI 3) = true := nI_inB2 (k := 4) hj (by omega)
        rw [this] at hb; cases hb
    · obtain ⟨j, _, j2, rfl⟩ := inB_r (by omega) (by omega) hb
      simp (disch := omega) only [lt_eq, bn_s, bn2_s, gd_t, nc, nI_add, n_mul, n_sub, ib_nI, up_hit, up_miss, n_le, n_lt, n_eq, n_eq0, n_lt0, n_0le, n_0lt, n_le0, zb_0, zb_1, if_pos, if_neg, ↓reduceIte, ite_inL, cond_true]
  rw [e]
  simp (disch := omega) only [lt_eq, bn_s, bn2_s, gd_t, nc, nI_add, n_mul, n_sub, ib_nI, up_hit, up_miss, n_le, n_lt, n_eq, n_eq0, n_lt0, n_0le, n_0lt, n_le0, zb_0, zb_1, if_pos, if_neg, ↓reduceIte, Nat.reduceAdd, Nat.reduceMul, Nat.reduceSub, r_inB, bI_ite]
  cases hb : inB a1 (nI 0) (nI 3)
  · exact ⟨_, f, m, rfl, rfl, hI'⟩
  obtain ⟨j, _, j2, rfl⟩ := inB_r (by omega) (by omega) hb
  have hj : j = 0 ∨ j = 1 ∨ j = 2 ∨ j = 3 := by omega
  rcases hj with rfl | rfl | rfl | rfl
  · have q : inB a2 (([1, 0, 0, 0] : List Int32).getD 0 0) (([999, 99, 10000, 1] : List Int32).getD 0 0) = inB a2 (nI 1) (nI 999) := rfl
    simp (disch := omega) only [lt_eq, bn_s, bn2_s, gd_t, nc, nI_add, n_mul, n_sub, ib_nI, up_hit, up_miss, n_le, n_lt, n_eq, n_eq0, n_lt0, n_0le, n_0lt, n_le0, zb_0, zb_1, if_pos, if_neg, ↓reduceIte, Nat.reduceAdd, Nat.reduceMul, Nat.reduceSub, cond_true, fX12_set_51, fX12_set_19, fX10_change, r_inB, bI_ite, q]
    cases hb2 : inB a2 (nI 1) (nI 999)
    · exact ⟨_, f, m, rfl, rfl, hI'⟩
    obtain ⟨v, v1, v2, rfl⟩ := inB_r (by omega) (by omega) hb2
    rw [s2]
    refine ⟨_, _, _, rfl, rfl, hI'.w ?_ (fun k hk => by (simp (disch := omega) only [up_rn])) (lwSame.of (fun k hk => by (simp (disch := omega) only [up_rn]))) (fun k k1 _ _ _ _ _ => by (simp (disch := omega) only [up_rn])) (by (simp (disch := omega) only [up_miss]))⟩
    exact putSc h1 h2 h3 h4 h5 h6 h7 ⟨by simp (disch := omega) only [lt_eq, bn_s, bn2_s, gd_t, nc, nI_add, n_mul, n_sub, ib_nI, up_hit, up_miss, n_le, n_lt, n_eq, n_eq0, n_lt0, n_0le, n_0lt, n_le0, zb_0, zb_1, if_pos, if_neg, ↓reduceIte, Nat.reduceAdd, Nat.reduceMul, Nat.reduceSub, s0], by simp (disch := omega) only [lt_eq, bn_s, bn2_s, gd_t, nc, nI_add, n_mul, n_sub, ib_nI, up_hit, up_miss, n_le, n_lt, n_eq, n_eq0, n_lt0, n_0le, n_0lt, n_le0, zb_0, zb_1, if_pos, if_neg, ↓reduceIte, Nat.reduceAdd, Nat.reduceMul, Nat.reduceSub, s1], by simp (disch := omega) only [lt_eq, bn_s, bn2_s, gd_t, nc, nI_add, n_mul, n_sub, ib_nI, up_hit, up_miss, n_le, n_lt, n_eq, n_eq0, n_lt0, n_0le, n_0lt, n_le0, zb_0, zb_1, if_pos, if_neg, ↓reduceIte, Nat.reduceAdd, Nat.reduceMul, Nat.reduceSub], by simp (disch := omega) only [lt_eq, bn_s, bn2_s, gd_t, nc, nI_add, n_mul, n_sub, ib_nI, up_hit, up_miss, n_le, n_lt, n_eq, n_eq0, n_lt0, n_0le, n_0lt, n_le0, zb_0, zb_1, if_pos, if_neg, ↓reduceIte, Nat.reduceAdd, Nat.reduceMul, Nat.reduceSub, s3], by simp (disch := omega) only [lt_eq, bn_s, bn2_s, gd_t, nc, nI_add, n_mul, n_sub, ib_nI, up_hit, up_miss, n_le, n_lt, n_eq, n_eq0, n_lt0, n_0le, n_0lt, n_le0, zb_0, zb_1, if_pos, if_neg, ↓reduceIte, Nat.reduceAdd, Nat.reduceMul, Nat.reduceSub, s4], by simp (disch := omega) only [lt_eq, bn_s, bn2_s, gd_t, nc, nI_add, n_mul, n_sub, ib_nI, up_hit, up_miss, n_le, n_lt, n_eq, n_eq0, n_lt0, n_0le, n_0lt, n_le0, zb_0, zb_1, if_pos, if_neg, ↓reduceIte, Nat.reduceAdd, Nat.reduceMul, Nat.reduceSub, s5], by simp (disch := omega) only [lt_eq, bn_s, bn2_s, gd_t, nc, nI_add, n_mul, n_sub, ib_nI, up_hit, up_miss, n_le, n_lt, n_eq, n_eq0, n_lt0, n_0le, n_0lt, n_le0, zb_0, zb_1, if_pos, if_neg, ↓reduceIte, Nat.reduceAdd, Nat.reduceMul, Nat.reduceSub]; exact s6, by simp (disch := omega) only [lt_eq, bn_s, bn2_s, gd_t, nc, nI_add, n_mul, n_sub, ib_nI, up_hit, up_miss, n_le, n_lt, n_eq, n_eq0, n_lt0, n_0le, n_0lt, n_le0, zb_0, zb_1, if_pos, if_neg, ↓reduceIte, Nat.reduceAdd, Nat.reduceMul, Nat.reduceSub]; exact s7, ⟨v, v1, v2, by simp (disch := omega) only [lt_eq, bn_s, bn2_s, gd_t, nc, nI_add, n_mul, n_sub, ib_nI, up_hit, up_miss, n_le, n_lt, n_eq, n_eq0, n_lt0, n_0le, n_0lt, n_le0, zb_0, zb_1, if_pos, if_neg, ↓reduceIte, Nat.reduceAdd, Nat.reduceMul, Nat.reduceSub]⟩, by simp (disch := omega) only [lt_eq, bn_s, bn2_s, gd_t, nc, nI_add, n_mul, n_sub, ib_nI, up_hit, up_miss, n_le, n_lt, n_eq, n_eq0, n_lt0, n_0le, n_0lt, n_le0, zb_0, zb_1, if_pos, if_neg, ↓reduceIte, Nat.reduceAdd, Nat.reduceMul, Nat.reduceSub]; exact s9, by simp (disch := omega) only [lt_eq, bn_s, bn2_s, gd_t, nc, nI_add, n_mul, n_sub, ib_nI, up_hit, up_miss, n_le, n_lt, n_eq, n_eq0, n_lt0, n_0le, n_0lt, n_le0, zb_0, zb_1, if_pos, if_neg, ↓reduceIte, Nat.reduceAdd, Nat.reduceMul, Nat.reduceSub]; exact s10⟩ (fun j hj => by (simp (disch := omega) only [up_miss])) (fun k k1 k2 => by (simp (disch := omega) only [up_rn])) (fun i hi => by (simp (disch := omega) only [up_miss])) (lwSame.of (fun k hk => by (simp (disch := omega) only [up_rn])))
  · have q : inB a2 (([1, 0, 0, 0] : List Int32).getD 1 0) (([999, 99, 10000, 1] : List Int32).getD 1 0) = inB a2 (nI 0) (nI 99) := rfl
    simp (disch := omega) only [lt_eq, bn_s, bn2_s, gd_t, nc, nI_add, n_mul, n_sub, ib_nI, up_hit, up_miss, n_le, n_lt, n_eq, n_eq0, n_lt0, n_0le, n_0lt, n_le0, zb_0, zb_1, if_pos, if_neg, ↓reduceIte, Nat.reduceAdd, Nat.reduceMul, Nat.reduceSub, cond_true, fX12_set_51, fX12_set_19, fX10_change, r_inB, bI_ite, q]
    cases hb2 : inB a2 (nI 0) (nI 99)
    · exact ⟨_, f, m, rfl, rfl, hI'⟩
    obtain ⟨v, v1, v2, rfl⟩ := inB_r (by omega) (by omega) hb2
    rw [s3]
    refine ⟨_, _, _, rfl, rfl, hI'.w ?_ (fun k hk => by (simp (disch := omega) only [up_rn])) (lwSame.of (fun k hk => by (simp (disch := omega) only [up_rn]))) (fun k k1 _ _ _ _ _ => by (simp (disch := omega) only [up_rn])) (by (simp (disch := omega) only [up_miss]))⟩
    exact putSc h1 h2 h3 h4 h5 h6 h7 ⟨by simp (disch := omega) only [lt_eq, bn_s, bn2_s, gd_t, nc, nI_add, n_mul, n_sub, ib_nI, up_hit, up_miss, n_le, n_lt, n_eq, n_eq0, n_lt0, n_0le, n_0lt, n_le0, zb_0, zb_1, if_pos, if_neg, ↓reduceIte, Nat.reduceAdd, Nat.reduceMul, Nat.reduceSub, s0], by simp (disch := omega) only [lt_eq, bn_s, bn2_s, gd_t, nc, nI_add, n_mul, n_sub, ib_nI, up_hit, up_miss, n_le, n_lt, n_eq, n_eq0, n_lt0, n_0le, n_0lt, n_le0, zb_0, zb_1, if_pos, if_neg, ↓reduceIte, Nat.reduceAdd, Nat.reduceMul, Nat.reduceSub, s1], by simp (disch := omega) only [lt_eq, bn_s, bn2_s, gd_t, nc, nI_add, n_mul, n_sub, ib_nI, up_hit, up_miss, n_le, n_lt, n_eq, n_eq0, n_lt0, n_0le, n_0lt, n_le0, zb_0, zb_1, if_pos, if_neg, ↓reduceIte, Nat.reduceAdd, Nat.reduceMul, Nat.reduceSub, s2], by simp (disch := omega) only [lt_eq, bn_s, bn2_s, gd_t, nc, nI_add, n_mul, n_sub, ib_nI, up_hit, up_miss, n_le, n_lt, n_eq, n_eq0, n_lt0, n_0le, n_0lt, n_le0, zb_0, zb_1, if_pos, if_neg, ↓reduceIte, Nat.reduceAdd, Nat.reduceMul, Nat.reduceSub], by simp (disch := omega) only [lt_eq, bn_s, bn2_s, gd_t, nc, nI_add, n_mul, n_sub, ib_nI, up_hit, up_miss, n_le, n_lt, n_eq, n_eq0, n_lt0, n_0le, n_0lt, n_le0, zb_0, zb_1, if_pos, if_neg, ↓reduceIte, Nat.reduceAdd, Nat.reduceMul, Nat.reduceSub, s4], by simp (disch := omega) only [lt_eq, bn_s, bn2_s, gd_t, nc, nI_add, n_mul, n_sub, ib_nI, up_hit, up_miss, n_le, n_lt, n_eq, n_eq0, n_lt0, n_0le, n_0lt, n_le0, zb_0, zb_1, if_pos, if_neg, ↓reduceIte, Nat.reduceAdd, Nat.reduceMul, Nat.reduceSub, s5], by simp (disch := omega) only [lt_eq, bn_s, bn2_s, gd_t, nc, nI_add, n_mul, n_sub, ib_nI, up_hit, up_miss, n_le, n_lt, n_eq, n_eq0, n_lt0, n_0le, n_0lt, n_le0, zb_0, zb_1, if_pos, if_neg, ↓reduceIte, Nat.reduceAdd, Nat.reduceMul, Nat.reduceSub]; exact s6, by simp (disch := omega) only [lt_eq, bn_s, bn2_s, gd_t, nc, nI_add, n_mul, n_sub, ib_nI, up_hit, up_miss, n_le, n_lt, n_eq, n_eq0, n_lt0, n_0le, n_0lt, n_le0, zb_0, zb_1, if_pos, if_neg, ↓reduceIte, Nat.reduceAdd, Nat.reduceMul, Nat.reduceSub]; exact s7, by simp (disch := omega) only [lt_eq, bn_s, bn2_s, gd_t, nc, nI_add, n_mul, n_sub, ib_nI, up_hit, up_miss, n_le, n_lt, n_eq, n_eq0, n_lt0, n_0le, n_0lt, n_le0, zb_0, zb_1, if_pos, if_neg, ↓reduceIte, Nat.reduceAdd, Nat.reduceMul, Nat.reduceSub]; exact s8, ⟨v, v2, by simp (disch := omega) only [lt_eq, bn_s, bn2_s, gd_t, nc, nI_add, n_mul, n_sub, ib_nI, up_hit, up_miss, n_le, n_lt, n_eq, n_eq0, n_lt0, n_0le, n_0lt, n_le0, zb_0, zb_1, if_pos, if_neg, ↓reduceIte, Nat.reduceAdd, Nat.reduceMul, Nat.reduceSub]⟩, by simp (disch := omega) only [lt_eq, bn_s, bn2_s, gd_t, nc, nI_add, n_mul, n_sub, ib_nI, up_hit, up_miss, n_le, n_lt, n_eq, n_eq0, n_lt0, n_0le, n_0lt, n_le0, zb_0, zb_1, if_pos, if_neg, ↓reduceIte, Nat.reduceAdd, Nat.reduceMul, Nat.reduceSub]; exact s10⟩ (fun j hj => by (simp (disch := omega) only [up_miss])) (fun k k1 k2 => by (simp (disch := omega) only [up_rn])) (fun i hi => by (simp (disch := omega) only [up_miss])) (lwSame.of (fun k hk => by (simp (disch := omega) only [up_rn])))
  · have q : inB a2 (([1, 0, 0, 0] : List Int32).getD 2 0) (([999, 99, 10000, 1] : List Int32).getD 2 0) = inB a2 (nI 0) (nI 10000) := rfl
    simp (disch := omega) only [lt_eq, bn_s, bn2_s, gd_t, nc, nI_add, n_mul, n_sub, ib_nI, up_hit, up_miss, n_le, n_lt, n_eq, n_eq0, n_lt0, n_0le, n_0lt, n_le0, zb_0, zb_1, if_pos, if_neg, ↓reduceIte, Nat.reduceAdd, Nat.reduceMul, Nat.reduceSub, cond_true, fX12_set_51, fX12_set_19, fX10_change, r_inB, bI_ite, q]
    cases hb2 : inB a2 (nI 0) (nI 10000)
    · exact ⟨_, f, m, rfl, rfl, hI'⟩
    obtain ⟨v, v1, v2, rfl⟩ := inB_r (by omega) (by omega) hb2
    rw [s1]
    refine ⟨_, _, _, rfl, rfl, hI'.w ?_ (fun k hk => by (simp (disch := omega) only [up_rn])) (lwSame.of (fun k hk => by (simp (disch := omega) only [up_rn]))) (fun k k1 _ _ _ _ _ => by (simp (disch := omega) only [up_rn])) (by (simp (disch := omega) only [up_miss]))⟩
    exact putSc h1 h2 h3 h4 h5 h6 h7 ⟨by simp (disch := omega) only [lt_eq, bn_s, bn2_s, gd_t, nc, nI_add, n_mul, n_sub, ib_nI, up_hit, up_miss, n_le, n_lt, n_eq, n_eq0, n_lt0, n_0le, n_0lt, n_le0, zb_0, zb_1, if_pos, if_neg, ↓reduceIte, Nat.reduceAdd, Nat.reduceMul, Nat.reduceSub, s0], by simp (disch := omega) only [lt_eq, bn_s, bn2_s, gd_t, nc, nI_add, n_mul, n_sub, ib_nI, up_hit, up_miss, n_le, n_lt, n_eq, n_eq0, n_lt0, n_0le, n_0lt, n_le0, zb_0, zb_1, if_pos, if_neg, ↓reduceIte, Nat.reduceAdd, Nat.reduceMul, Nat.reduceSub], by simp (disch := omega) only [lt_eq, bn_s, bn2_s, gd_t, nc, nI_add, n_mul, n_sub, ib_nI, up_hit, up_miss, n_le, n_lt, n_eq, n_eq0, n_lt0, n_0le, n_0lt, n_le0, zb_0, zb_1, if_pos, if_neg, ↓reduceIte, Nat.reduceAdd, Nat.reduceMul, Nat.reduceSub, s2], by simp (disch := omega) only [lt_eq, bn_s, bn2_s, gd_t, nc, nI_add, n_mul, n_sub, ib_nI, up_hit, up_miss, n_le, n_lt, n_eq, n_eq0, n_lt0, n_0le, n_0lt, n_le0, zb_0, zb_1, if_pos, if_neg, ↓reduceIte, Nat.reduceAdd, Nat.reduceMul, Nat.reduceSub, s3], by simp (disch := omega) only [lt_eq, bn_s, bn2_s, gd_t, nc, nI_add, n_mul, n_sub, ib_nI, up_hit, up_miss, n_le, n_lt, n_eq, n_eq0, n_lt0, n_0le, n_0lt, n_le0, zb_0, zb_1, if_pos, if_neg, ↓reduceIte, Nat.reduceAdd, Nat.reduceMul, Nat.reduceSub, s4], by simp (disch := omega) only [lt_eq, bn_s, bn2_s, gd_t, nc, nI_add, n_mul, n_sub, ib_nI, up_hit, up_miss, n_le, n_lt, n_eq, n_eq0, n_lt0, n_0le, n_0lt, n_le0, zb_0, zb_1, if_pos, if_neg, ↓reduceIte, Nat.reduceAdd, Nat.reduceMul, Nat.reduceSub, s5], by simp (disch := omega) only [lt_eq, bn_s, bn2_s, gd_t, nc, nI_add, n_mul, n_sub, ib_nI, up_hit, up_miss, n_le, n_lt, n_eq, n_eq0, n_lt0, n_0le, n_0lt, n_le0, zb_0, zb_1, if_pos, if_neg, ↓reduceIte, Nat.reduceAdd, Nat.reduceMul, Nat.reduceSub]; exact s6, ⟨v, v2, by simp (disch := omega) only [lt_eq, bn_s, bn2_s, gd_t, nc, nI_add, n_mul, n_sub, ib_nI, up_hit, up_miss, n_le, n_lt, n_eq, n_eq0, n_lt0, n_0le, n_0lt, n_le0, zb_0, zb_1, if_pos, if_neg, ↓reduceIte, Nat.reduceAdd, Nat.reduceMul, Nat.reduceSub]⟩, by simp (disch := omega) only [lt_eq, bn_s, bn2_s, gd_t, nc, nI_add, n_mul, n_sub, ib_nI, up_hit, up_miss, n_le, n_lt, n_eq, n_eq0, n_lt0, n_0le, n_0lt, n_le0, zb_0, zb_1, if_pos, if_neg, ↓reduceIte, Nat.reduceAdd, Nat.reduceMul, Nat.reduceSub]; exact s8, by simp (disch := omega) only [lt_eq, bn_s, bn2_s, gd_t, nc, nI_add, n_mul, n_sub, ib_nI, up_hit, up_miss, n_le, n_lt, n_eq, n_eq0, n_lt0, n_0le, n_0lt, n_le0, zb_0, zb_1, if_pos, if_neg, ↓reduceIte, Nat.reduceAdd, Nat.reduceMul, Nat.reduceSub]; exact s9, by simp (disch := omega) only [lt_eq, bn_s, bn2_s, gd_t, nc, nI_add, n_mul, n_sub, ib_nI, up_hit, up_miss, n_le, n_lt, n_eq, n_eq0, n_lt0, n_0le, n_0lt, n_le0, zb_0, zb_1, if_pos, if_neg, ↓reduceIte, Nat.reduceAdd, Nat.reduceMul, Nat.reduceSub]; exact s10⟩ (fun j hj => by (simp (disch := omega) only [up_miss])) (fun k k1 k2 => by (simp (disch := omega) only [up_rn])) (fun i hi => by (simp (disch := omega) only [up_miss])) (lwSame.of (fun k hk => by (simp (disch := omega) only [up_rn])))
  · have q : inB a2 (([1, 0, 0, 0] : List Int32).getD 3 0) (([999, 99, 10000, 1] : List Int32).getD 3 0) = inB a2 (nI 0) (nI 1) := rfl
    simp (disch := omega) only [lt_eq, bn_s, bn2_s, gd_t, nc, nI_add, n_mul, n_sub, ib_nI, up_hit, up_miss, n_le, n_lt, n_eq, n_eq0, n_lt0, n_0le, n_0lt, n_le0, zb_0, zb_1, if_pos, if_neg, ↓reduceIte, Nat.reduceAdd, Nat.reduceMul, Nat.reduceSub, cond_true, fX12_set_51, fX12_set_19, fX10_change, r_inB, bI_ite, q]
    cases hb2 : inB a2 (nI 0) (nI 1)
    · exact ⟨_, f, m, rfl, rfl, hI'⟩
    obtain ⟨v, v1, v2, rfl⟩ := inB_r (by omega) (by omega) hb2
    rw [s4]
    refine ⟨_, _, _, rfl, rfl, hI'.w ?_ (fun k hk => by (simp (disch := omega) only [up_rn])) (lwSame.of (fun k hk => by (simp (disch := omega) only [up_rn]))) (fun k k1 _ _ _ _ _ => by (simp (disch := omega) only [up_rn])) (by (simp (disch := omega) only [up_miss]))⟩
    exact putSc h1 h2 h3 h4 h5 h6 h7 ⟨by simp (disch := omega) only [lt_eq, bn_s, bn2_s, gd_t, nc, nI_add, n_mul, n_sub, ib_nI, up_hit, up_miss, n_le, n_lt, n_eq, n_eq0, n_lt0, n_0le, n_0lt, n_le0, zb_0, zb_1, if_pos, if_neg, ↓reduceIte, Nat.reduceAdd, Nat.reduceMul, Nat.reduceSub, s0], by simp (disch := omega) only [lt_eq, bn_s, bn2_s, gd_t, nc, nI_add, n_mul, n_sub, ib_nI, up_hit, up_miss, n_le, n_lt, n_eq, n_eq0, n_lt0, n_0le, n_0lt, n_le0, zb_0, zb_1, if_pos, if_neg, ↓reduceIte, Nat.reduceAdd, Nat.reduceMul, Nat.reduceSub, s1], by simp (disch := omega) only [lt_eq, bn_s, bn2_s, gd_t, nc, nI_add, n_mul, n_sub, ib_nI, up_hit, up_miss, n_le, n_lt, n_eq, n_eq0, n_lt0, n_0le, n_0lt, n_le0, zb_0, zb_1, if_pos, if_neg, ↓reduceIte, Nat.reduceAdd, Nat.reduceMul, Nat.reduceSub, s2], by simp (disch := omega) only [lt_eq, bn_s, bn2_s, gd_t, nc, nI_add, n_mul, n_sub, ib_nI, up_hit, up_miss, n_le, n_lt, n_eq, n_eq0, n_lt0, n_0le, n_0lt, n_le0, zb_0, zb_1, if_pos, if_neg, ↓reduceIte, Nat.reduceAdd, Nat.reduceMul, Nat.reduceSub, s3], by simp (disch := omega) only [lt_eq, bn_s, bn2_s, gd_t, nc, nI_add, n_mul, n_sub, ib_nI, up_hit, up_miss, n_le, n_lt, n_eq, n_eq0, n_lt0, n_0le, n_0lt, n_le0, zb_0, zb_1, if_pos, if_neg, ↓reduceIte, Nat.reduceAdd, Nat.reduceMul, Nat.reduceSub], by simp (disch := omega) only [lt_eq, bn_s, bn2_s, gd_t, nc, nI_add, n_mul, n_sub, ib_nI, up_hit, up_miss, n_le, n_lt, n_eq, n_eq0, n_lt0, n_0le, n_0lt, n_le0, zb_0, zb_1, if_pos, if_neg, ↓reduceIte, Nat.reduceAdd, Nat.reduceMul, Nat.reduceSub, s5], by simp (disch := omega) only [lt_eq, bn_s, bn2_s, gd_t, nc, nI_add, n_mul, n_sub, ib_nI, up_hit, up_miss, n_le, n_lt, n_eq, n_eq0, n_lt0, n_0le, n_0lt, n_le0, zb_0, zb_1, if_pos, if_neg, ↓reduceIte, Nat.reduceAdd, Nat.reduceMul, Nat.reduceSub]; exact s6, by simp (disch := omega) only [lt_eq, bn_s, bn2_s, gd_t, nc, nI_add, n_mul, n_sub, ib_nI, up_hit, up_miss, n_le, n_lt, n_eq, n_eq0, n_lt0, n_0le, n_0lt, n_le0, zb_0, zb_1, if_pos, if_neg, ↓reduceIte, Nat.reduceAdd, Nat.reduceMul, Nat.reduceSub]; exact s7, by simp (disch := omega) only [lt_eq, bn_s, bn2_s, gd_t, nc, nI_add, n_mul, n_sub, ib_nI, up_hit, up_miss, n_le, n_lt, n_eq, n_eq0, n_lt0, n_0le, n_0lt, n_le0, zb_0, zb_1, if_pos, if_neg, ↓reduceIte, Nat.reduceAdd, Nat.reduceMul, Nat.reduceSub]; exact s8, by simp (disch := omega) only [lt_eq, bn_s, bn2_s, gd_t, nc, nI_add, n_mul, n_sub, ib_nI, up_hit, up_miss, n_le, n_lt, n_eq, n_eq0, n_lt0, n_0le, n_0lt, n_le0, zb_0, zb_1, if_pos, if_neg, ↓reduceIte, Nat.reduceAdd, Nat.reduceMul, Nat.reduceSub]; exact s9, ⟨v, v2, by simp (disch := omega) only [lt_eq, bn_s, bn2_s, gd_t, nc, nI_add, n_mul, n_sub, ib_nI, up_hit, up_miss, n_le, n_lt, n_eq, n_eq0, n_lt0, n_0le, n_0lt, n_le0, zb_0, zb_1, if_pos, if_neg, ↓reduceIte, Nat.reduceAdd, Nat.reduceMul, Nat.reduceSub]⟩⟩ (fun j hj => by (simp (disch := omega) only [up_miss])) (fun k k1 k2 => by (simp (disch := omega) only [up_rn])) (fun i hi => by (simp (disch := omega) only [up_miss])) (lwSame.of (fun k hk => by (simp (disch := omega) only [up_rn])))
end K3
