/-! slots -/
section WL
variable {n : Nat}
theorem sl_new {N i : Nat} {f f' m m' : Mm} (hI : Inv N f m) (hi : i < 5) (c : ∀ r, r ≠ 83 + 3 * i → r ≠ 84 + 3 * i → r ≠ 85 + 3 * i → f' r = f r) (r : ∀ k, k < 124 ∨ 127 < k → m' k = m k) (r4 : ∀ t, t ≠ i → m' 124 t = m 124 t) (r5 : ∀ t, t ≠ i → m' 125 t = m 125 t) (r6 : ∀ t, t ≠ i → m' 126 t = m 126 t) (r7 : ∀ t, t < 24 * i ∨ 24 * i + 24 ≤ t → m' 127 t = m 127 t)
    (h : ∃ th, th ≤ 3 ∧ f' (83 + 3 * i) 0 = nI th ∧ m' 124 i = nI th ∧ (th = 1 → (∃ k, k ≤ 5 ∧ f' (83 + 3 * i) 1 = nI k ∧ m' 125 i = nI k) ∧ f' (83 + 3 * i) 2 = m' 126 i ∧ hOK (m' 126 i)) ∧ (th = 2 → (∃ k, k ≤ 24 ∧ f' (84 + 3 * i) 1 = nI k ∧ m' 125 i = nI k) ∧ ∀ k, k < 24 → f' (85 + 3 * i) k = m' 127 (24 * i + k)) ∧ (th = 3 → f' (83 + 3 * i) 3 = m' 125 i)) : Inv N f' m' := by
  refine hI.sh (hI.2.2.2.1.cg (fun k a b => c k (by omega) (by omega) (by omega)) (fun k a b => r k (by omega))) (fun t ht => ?_) (fun k hk => c k (by omega) (by omega) (by omega)) (fun k hk => r k (by omega))
  by_cases e : t = i
  · subst e; exact h
  · clear h
    have c83 := c (83 + 3 * t) (by omega) (by omega) (by omega)
    have c84 := c (84 + 3 * t) (by omega) (by omega) (by omega)
    have c85 := c (85 + 3 * t) (by omega) (by omega) (by omega)
    have d7 : ∀ k, k < 24 → m' 127 (24 * t + k) = m 127 (24 * t + k) := fun k hk => r7 _ (by omega)
    obtain ⟨th, q1, q2, q3, q4, q5, q6⟩ := hI.2.2.2.2.1 t ht
    rw [c83, c84, c85, r4 t e, r5 t e, r6 t e]
    exact ⟨th, q1, q2, q3, q4, fun q => ⟨(q5 q).1, fun k hk => by rw [d7 k hk]; exact (q5 q).2 k hk⟩, q6⟩
theorem r_layCopy {i t : Nat} {v : Int32} {m : Mm} (hn : 2000 ≤ n) (hi : i < 5) (ht : t < 4) : ∃ m', fX12_lay_136L n n (nI i) (nI 2) (nI t) v (nI 0) m = some (v, m') ∧ (∀ k, m' 127 k = if 24 * i ≤ k ∧ k < 24 * i + 24 then m 123 (24 * t + (k - 24 * i)) else m 127 k) ∧ ∀ k, k ≠ 127 → m' k = m k := by
  have L := loopInv (fun q j (s : Mm) => fX12_lay_136L n q (nI i) (nI 2) (nI t) v (nI j) s) 24 (fun j s => (∀ k, s 127 k = if 24 * i ≤ k ∧ k < 24 * i + j then m 123 (24 * t + (k - 24 * i)) else m 127 k) ∧ ∀ k, k ≠ 127 → s k = m k)
    (fun r => r.1 = v ∧ (∀ k, r.2 127 k = if 24 * i ≤ k ∧ k < 24 * i + 24 then m 123 (24 * t + (k - 24 * i)) else m 127 k) ∧ ∀ k, k ≠ 127 → r.2 k = m k)
    (fun q s h => ⟨(v, s), by simp (disch := omega) only [ltE, bnE, bn2E, gdE, nc, nI_add, n_mul, n_sub, ib_nI, up_hit, up_miss, n_le, n_lt, n_eq, n_eq0, n_lt0, n_0le, n_0lt, n_le0, zb_0, zb_1, if_pos, if_neg, ↓reduceIte, Nat.reduceAdd, Nat.reduceMul, Nat.reduceSub, fX12_lay_136, fX12_lay_136L, fX12_lay_132, fX12_lay_111, fX12_lay_62, fX12_lay_44, fX12_lay_29, Nat.le_refl], rfl, h⟩) ?_ n 0 m (by omega) (by omega) ⟨fun k => by rw [if_neg (by omega)], fun k _ => rfl⟩
  · obtain ⟨⟨r, m'⟩, e, h0, h1, h2⟩ := L
    have h0 : r = v := h0
    subst h0
    exact ⟨m', e, h1, h2⟩
  · intro q j s hj h
    refine Or.inr ⟨up s 127 (24 * i + j) (s 123 (24 * t + j)), by simp (disch := omega) only [ltE, bnE, bn2E, gdE, nc, nI_add, n_mul, n_sub, ib_nI, up_hit, up_miss, n_le, n_lt, n_eq, n_eq0, n_lt0, n_0le, n_0lt, n_le0, zb_0, zb_1, if_pos, if_neg, ↓reduceIte, Nat.reduceAdd, Nat.reduceMul, Nat.reduceSub, fX12_lay_136, fX12_lay_136L, fX12_lay_132, fX12_lay_111, fX12_lay_62, fX12_lay_44, fX12_lay_29, show ¬ 24 ≤ j from by omega], fun k => ?_, fun k hk => by rw [up_rn hk]; exact h.2 k hk⟩
    by_cases q : k = 24 * i + j
    · subst q
      rw [up_hit, if_pos (by omega), h.2 123 (by omega)]; congr 1; omega
    · rw [up_miss (Or.inr q), h.1 k]
      by_cases w : 24 * i ≤ k ∧ k < 24 * i + j
      · rw [if_pos w, if_pos (by omega)]
      · rw [if_neg w, if_neg (by omega)]
theorem s_lay (hn : 2000 ≤ n) : SP_lay Inv n := by
  intro N f m a1 a2 a3 hI
  have hS := hI.2.2.2.1
  have hL := hI.2.2.2.2.1
  have hI' := hI
  obtain ⟨hN, ⟨h0, nC, nw, ns, nk, ny, no, nt, h1, h2, h3, h4, h5, h6, h7⟩, hO⟩ := hI
  obtain ⟨g1, g2, g3, g4, g5, g6, g7⟩ := h3
  have g2 : f 10 4 = nI ns := g2
  unfold fX11_lay fX12_lay
  simp (disch := omega) only [ltE, bnE, bn2E, gdE, nc, nI_add, n_mul, n_sub, ib_nI, up_hit, up_miss, n_le, n_lt, n_eq, n_eq0, n_lt0, n_0le, n_0lt, n_le0, zb_0, zb_1, if_pos, if_neg, ↓reduceIte, Nat.reduceAdd, Nat.reduceMul, Nat.reduceSub, c_isSlot, r_isSlot, ite_in2, r_inB, bI_ite, c_has8 g2, r_isStep, g3]
  cases hb : inB a1 (nI 0) (nI 4)
  · exact ⟨_, f, m, rfl, rfl, hI'⟩
  cases hb2 : inB a2 (nI 0) (nI 3)
  · exact ⟨_, f, m, rfl, rfl, hI'⟩
  obtain ⟨i, _, i1, rfl⟩ := inB_r (by omega) (by omega) hb
  obtain ⟨th, _, t1, rfl⟩ := inB_r (by omega) (by omega) hb2
  obtain ⟨ot, o1, o2, o3, _⟩ := hL i (by omega)
  have ov : f (83 + 3 * i) 0 = m 124 i := o2.trans o3.symm
  have e84 : 83 + 3 * i + 1 = 84 + 3 * i := by omega
  have e85 : 84 + 3 * i + 1 = 85 + 3 * i := by omega
  have nn : ∃ p, n = p + 1 := ⟨n - 1, by omega⟩
  have hth : th = 0 ∨ th = 1 ∨ th = 2 ∨ th = 3 := by omega
  simp only [cond_true]
  rcases hth with rfl | rfl | rfl | rfl
  · have L : ∀ t, fX12_lay_136L n n (nI i) (nI 0) a3 (m 124 i) (nI 0) t = some (m 124 i, t) := by
      intro t; obtain ⟨p, hp⟩ := nn; rw [hp]
      simp (disch := omega) only [ltE, bnE, bn2E, gdE, nc, nI_add, n_mul, n_sub, ib_nI, up_hit, up_miss, n_le, n_lt, n_eq, n_eq0, n_lt0, n_0le, n_0lt, n_le0, zb_0, zb_1, if_pos, if_neg, ↓reduceIte, Nat.reduceAdd, Nat.reduceMul, Nat.reduceSub, fX12_lay_136, fX12_lay_136L, fX12_lay_132, fX12_lay_111, fX12_lay_62, fX12_lay_44, fX12_lay_29]
    refine ⟨m 124 i, up (up f (83 + 3 * i) 0 (nI 0)) (83 + 3 * i) 3 a3, up (up (up m 124 i (nI 0)) 125 i a3) 126 i (nI 0), ?_, ?_, sl_new (i := i) hI' (by omega) (fun r a b c => by (simp (disch := omega) only [up_rn])) (fun k hk => by (simp (disch := omega) only [up_rn])) (fun t ht => by (simp (disch := omega) only [up_miss])) (fun t ht => by (simp (disch := omega) only [up_miss])) (fun t ht => by (simp (disch := omega) only [up_miss])) (fun t ht => by (simp (disch := omega) only [up_miss])) ⟨0, by omega, by simp (disch := omega) only [ltE, bnE, bn2E, gdE, nc, nI_add, n_mul, n_sub, ib_nI, up_hit, up_miss, n_le, n_lt, n_eq, n_eq0, n_lt0, n_0le, n_0lt, n_le0, zb_0, zb_1, if_pos, if_neg, ↓reduceIte, Nat.reduceAdd, Nat.reduceMul, Nat.reduceSub], by simp (disch := omega) only [ltE, bnE, bn2E, gdE, nc, nI_add, n_mul, n_sub, ib_nI, up_hit, up_miss, n_le, n_lt, n_eq, n_eq0, n_lt0, n_0le, n_0lt, n_le0, zb_0, zb_1, if_pos, if_neg, ↓reduceIte, Nat.reduceAdd, Nat.reduceMul, Nat.reduceSub], fun q => by omega, fun q => by omega, fun q => by omega⟩⟩
    · simp (disch := omega) only [ltE, bnE, bn2E, gdE, nc, nI_add, n_mul, n_sub, ib_nI, up_hit, up_miss, n_le, n_lt, n_eq, n_eq0, n_lt0, n_0le, n_0lt, n_le0, zb_0, zb_1, if_pos, if_neg, ↓reduceIte, Nat.reduceAdd, Nat.reduceMul, Nat.reduceSub, fX11_lay_38, fX11_lay_53, fX11_lay_74, ov, Nat.reduceEqDiff]
    · simp (disch := omega) only [ltE, bnE, bn2E, gdE, nc, nI_add, n_mul, n_sub, ib_nI, up_hit, up_miss, n_le, n_lt, n_eq, n_eq0, n_lt0, n_0le, n_0lt, n_le0, zb_0, zb_1, if_pos, if_neg, ↓reduceIte, Nat.reduceAdd, Nat.reduceMul, Nat.reduceSub, fX12_lay_29, fX12_lay_44, fX12_lay_62, fX12_lay_111, fX12_lay_132, L, Nat.reduceEqDiff]
  · simp (disch := omega) only [ltE, bnE, bn2E, gdE, nc, nI_add, n_mul, n_sub, ib_nI, up_hit, up_miss, n_le, n_lt, n_eq, n_eq0, n_lt0, n_0le, n_0lt, n_le0, zb_0, zb_1, if_pos, if_neg, ↓reduceIte, Nat.reduceAdd, Nat.reduceMul, Nat.reduceSub]
    cases hb3 : inB a3 (nI 0) (nI ns - nI 1)
    · exact ⟨_, f, m, rfl, rfl, hI'⟩
    obtain ⟨s, s1, rfl⟩ := inB_h (by omega) hb3
    have L : ∀ t, fX12_lay_136L n n (nI i) (nI 1) (nI s) (m 124 i) (nI 0) t = some (m 124 i, t) := by
      intro t; obtain ⟨p, hp⟩ := nn; rw [hp]
      simp (disch := omega) only [ltE, bnE, bn2E, gdE, nc, nI_add, n_mul, n_sub, ib_nI, up_hit, up_miss, n_le, n_lt, n_eq, n_eq0, n_lt0, n_0le, n_0lt, n_le0, zb_0, zb_1, if_pos, if_neg, ↓reduceIte, Nat.reduceAdd, Nat.reduceMul, Nat.reduceSub, fX12_lay_136, fX12_lay_136L, fX12_lay_132, fX12_lay_111, fX12_lay_62, fX12_lay_44, fX12_lay_29]
    obtain ⟨k, k1, k2, k3⟩ := g4 s s1
    have k2 : f 11 s = nI k := k2
    have z2 : f 14 s = m 108 (94 + 4 * s) := (g7 s s1).1
    refine ⟨m 124 i, up (up (up f (83 + 3 * i) 0 (nI 1)) (83 + 3 * i) 1 (f 11 s)) (83 + 3 * i) 2 (f 14 s), up (up (up m 124 i (nI 1)) 125 i (m 108 (91 + 4 * s))) 126 i (m 108 (94 + 4 * s)), ?_, ?_, sl_new (i := i) hI' (by omega) (fun r a b c => by (simp (disch := omega) only [up_rn])) (fun k hk => by (simp (disch := omega) only [up_rn])) (fun t ht => by (simp (disch := omega) only [up_miss])) (fun t ht => by (simp (disch := omega) only [up_miss])) (fun t ht => by (simp (disch := omega) only [up_miss])) (fun t ht => by (simp (disch := omega) only [up_miss])) ⟨1, by omega, by simp (disch := omega) only [ltE, bnE, bn2E, gdE, nc, nI_add, n_mul, n_sub, ib_nI, up_hit, up_miss, n_le, n_lt, n_eq, n_eq0, n_lt0, n_0le, n_0lt, n_le0, zb_0, zb_1, if_pos, if_neg, ↓reduceIte, Nat.reduceAdd, Nat.reduceMul, Nat.reduceSub], by simp (disch := omega) only [ltE, bnE, bn2E, gdE, nc, nI_add, n_mul, n_sub, ib_nI, up_hit, up_miss, n_le, n_lt, n_eq, n_eq0, n_lt0, n_0le, n_0lt, n_le0, zb_0, zb_1, if_pos, if_neg, ↓reduceIte, Nat.reduceAdd, Nat.reduceMul, Nat.reduceSub], fun q => ⟨⟨k, k1, by simp (disch := omega) only [ltE, bnE, bn2E, gdE, nc, nI_add, n_mul, n_sub, ib_nI, up_hit, up_miss, n_le, n_lt, n_eq, n_eq0, n_lt0, n_0le, n_0lt, n_le0, zb_0, zb_1, if_pos, if_neg, ↓reduceIte, Nat.reduceAdd, Nat.reduceMul, Nat.reduceSub, k2], by simp (disch := omega) only [ltE, bnE, bn2E, gdE, nc, nI_add, n_mul, n_sub, ib_nI, up_hit, up_miss, n_le, n_lt, n_eq, n_eq0, n_lt0, n_0le, n_0lt, n_le0, zb_0, zb_1, if_pos, if_neg, ↓reduceIte, Nat.reduceAdd, Nat.reduceMul, Nat.reduceSub, k3]⟩, by simp (disch := omega) only [ltE, bnE, bn2E, gdE, nc, nI_add, n_mul, n_sub, ib_nI, up_hit, up_miss, n_le, n_lt, n_eq, n_eq0, n_lt0, n_0le, n_0lt, n_le0, zb_0, zb_1, if_pos, if_neg, ↓reduceIte, Nat.reduceAdd, Nat.reduceMul, Nat.reduceSub, z2], by simp (disch := omega) only [ltE, bnE, bn2E, gdE, nc, nI_add, n_mul, n_sub, ib_nI, up_hit, up_miss, n_le, n_lt, n_eq, n_eq0, n_lt0, n_0le, n_0lt, n_le0, zb_0, zb_1, if_pos, if_neg, ↓reduceIte, Nat.reduceAdd, Nat.reduceMul, Nat.reduceSub]; exact (g7 s s1).2⟩, fun q => by omega, fun q => by omega⟩⟩
    · simp (disch := omega) only [ltE, bnE, bn2E, gdE, nc, nI_add, n_mul, n_sub, ib_nI, up_hit, up_miss, n_le, n_lt, n_eq, n_eq0, n_lt0, n_0le, n_0lt, n_le0, zb_0, zb_1, if_pos, if_neg, ↓reduceIte, Nat.reduceAdd, Nat.reduceMul, Nat.reduceSub, cond_true, fX11_lay_38, fX11_lay_53, fX11_lay_74, ov, Nat.reduceEqDiff]
    · simp (disch := omega) only [ltE, bnE, bn2E, gdE, nc, nI_add, n_mul, n_sub, ib_nI, up_hit, up_miss, n_le, n_lt, n_eq, n_eq0, n_lt0, n_0le, n_0lt, n_le0, zb_0, zb_1, if_pos, if_neg, ↓reduceIte, Nat.reduceAdd, Nat.reduceMul, Nat.reduceSub, cond_true, fX12_lay_29, fX12_lay_44, fX12_lay_62, fX12_lay_111, fX12_lay_132, r_step4, L, Nat.reduceEqDiff]
  · simp (disch := omega) only [ltE, bnE, bn2E, gdE, nc, nI_add, n_mul, n_sub, ib_nI, up_hit, up_miss, n_le, n_lt, n_eq, n_eq0, n_lt0, n_0le, n_0lt, n_le0, zb_0, zb_1, if_pos, if_neg, ↓reduceIte, Nat.reduceAdd, Nat.reduceMul, Nat.reduceSub, fX11_lay_38, fX12_lay_29, c_isSheet, r_isSheet, bI_ite]
    cases hb3 : inB a3 (nI 0) (nI 3)
    · exact ⟨_, f, m, rfl, rfl, hI'⟩
    obtain ⟨t, _, t1, rfl⟩ := inB_r (by omega) (by omega) hb3
    obtain ⟨q1, ⟨k, k1, k2, k3⟩, q3⟩ := hS t (by omega)
    have e75 : 74 + 2 * t + 1 = 75 + 2 * t := by omega
    simp (disch := omega) only [ltE, bnE, bn2E, gdE, nc, nI_add, n_mul, n_sub, ib_nI, up_hit, up_miss, n_le, n_lt, n_eq, n_eq0, n_lt0, n_0le, n_0lt, n_le0, zb_0, zb_1, if_pos, if_neg, ↓reduceIte, Nat.reduceAdd, Nat.reduceMul, Nat.reduceSub, cond_true, fX11_lay_53, fX12_lay_44, c_isMissing, bI_ite]
    rcases q1 with ⟨x1, x2⟩ | ⟨s, s1, x1, x2⟩
    · refine ⟨-1000000011, f, m, ?_, ?_, hI'⟩
      · simp only [x1, decide_true, cond_true]
      · simp only [x2, m1_le, if_false]
    have ns : ¬ nI s = -1 := fun e => (m1_nI (show s < 1000 by omega)).mp e.symm
    obtain ⟨m1, e1, u1, u2⟩ := r_layCopy (n := n) (i := i) (t := t) (v := m 124 i) (m := up (up (up m 124 i (nI 2)) 125 i (nI k)) 126 i (nI 0)) hn (by omega) (by omega)
    refine ⟨m 124 i, cpR (up (up (up f (83 + 3 * i) 0 (nI 2)) (84 + 3 * i) 0 (nI s)) (84 + 3 * i) 1 (nI k)) (75 + 2 * t) (85 + 3 * i) (nI 0) (nI 0) (nI 24), m1, ?_, ?_, sl_new (i := i) hI' (by omega) (fun r a b c => by simp (disch := omega) only [cp_rn, up_rn]) (fun k hk => by rw [u2 k (by omega)]; (simp (disch := omega) only [up_rn])) (fun t ht => by rw [u2 124 (by omega)]; (simp (disch := omega) only [up_miss])) (fun t ht => by rw [u2 125 (by omega)]; (simp (disch := omega) only [up_miss])) (fun t ht => by rw [u2 126 (by omega)]; (simp (disch := omega) only [up_miss])) (fun t ht => by rw [u1, if_neg (by omega)]; (simp (disch := omega) only [up_miss])) ⟨2, by omega, by simp (disch := omega) only [ltE, bnE, bn2E, gdE, nc, nI_add, n_mul, n_sub, ib_nI, up_hit, up_miss, n_le, n_lt, n_eq, n_eq0, n_lt0, n_0le, n_0lt, n_le0, zb_0, zb_1, if_pos, if_neg, ↓reduceIte, Nat.reduceAdd, Nat.reduceMul, Nat.reduceSub, cp_miss], by rw [u2 124 (by omega)]; simp (disch := omega) only [ltE, bnE, bn2E, gdE, nc, nI_add, n_mul, n_sub, ib_nI, up_hit, up_miss, n_le, n_lt, n_eq, n_eq0, n_lt0, n_0le, n_0lt, n_le0, zb_0, zb_1, if_pos, if_neg, ↓reduceIte, Nat.reduceAdd, Nat.reduceMul, Nat.reduceSub], fun q => by omega, fun q => ⟨⟨k, k1, by simp (disch := omega) only [ltE, bnE, bn2E, gdE, nc, nI_add, n_mul, n_sub, ib_nI, up_hit, up_miss, n_le, n_lt, n_eq, n_eq0, n_lt0, n_0le, n_0lt, n_le0, zb_0, zb_1, if_pos, if_neg, ↓reduceIte, Nat.reduceAdd, Nat.reduceMul, Nat.reduceSub, cp_miss], by rw [u2 125 (by omega)]; simp (disch := omega) only [ltE, bnE, bn2E, gdE, nc, nI_add, n_mul, n_sub, ib_nI, up_hit, up_miss, n_le, n_lt, n_eq, n_eq0, n_lt0, n_0le, n_0lt, n_le0, zb_0, zb_1, if_pos, if_neg, ↓reduceIte, Nat.reduceAdd, Nat.reduceMul, Nat.reduceSub]⟩, fun j hj => ?_⟩, fun q => by omega⟩⟩
    · simp (disch := omega) only [ltE, bnE, bn2E, gdE, nc, nI_add, n_mul, n_sub, ib_nI, up_hit, up_miss, n_le, n_lt, n_eq, n_eq0, n_lt0, n_0le, n_0lt, n_le0, zb_0, zb_1, if_pos, if_neg, ↓reduceIte, Nat.reduceAdd, Nat.reduceMul, Nat.reduceSub, x1, ns, decide_false, cond_false, fX11_lay_74, fX5_takeOver, e84, e85, e75, ov, k2, Nat.reduceEqDiff]
    · simp (disch := omega) only [ltE, bnE, bn2E, gdE, nc, nI_add, n_mul, n_sub, ib_nI, up_hit, up_miss, n_le, n_lt, n_eq, n_eq0, n_lt0, n_0le, n_0lt, n_le0, zb_0, zb_1, if_pos, if_neg, ↓reduceIte, Nat.reduceAdd, Nat.reduceMul, Nat.reduceSub, x2, fX12_lay_62, fX12_lay_111, fX12_lay_132, k3, e1, Nat.reduceEqDiff]
    · rw [cp_in (by omega) hj, u1, if_pos (by omega)]
      simp (disch := omega) only [ltE, bnE, bn2E, gdE, nc, nI_add, n_mul, n_sub, ib_nI, up_hit, up_miss, n_le, n_lt, n_eq, n_eq0, n_lt0, n_0le, n_0lt, n_le0, zb_0, zb_1, if_pos, if_neg, ↓reduceIte, Nat.reduceAdd, Nat.reduceMul, Nat.reduceSub]
      rw [q3 j hj]; congr 1; omega
  · have L : ∀ t, fX12_lay_136L n n (nI i) (nI 3) a3 (m 124 i) (nI 0) t = some (m 124 i, t) := by
      intro t; obtain ⟨p, hp⟩ := nn; rw [hp]
      simp (disch := omega) only [ltE, bnE, bn2E, gdE, nc, nI_add, n_mul, n_sub, ib_nI, up_hit, up_miss, n_le, n_lt, n_eq, n_eq0, n_lt0, n_0le, n_0lt, n_le0, zb_0, zb_1, if_pos, if_neg, ↓reduceIte, Nat.reduceAdd, Nat.reduceMul, Nat.reduceSub, fX12_lay_136, fX12_lay_136L, fX12_lay_132, fX12_lay_111, fX12_lay_62, fX12_lay_44, fX12_lay_29]
    refine ⟨m 124 i, up (up f (83 + 3 * i) 0 (nI 3)) (83 + 3 * i) 3 a3, up (up (up m 124 i (nI 3)) 125 i a3) 126 i (nI 0), ?_, ?_, sl_new (i := i) hI' (by omega) (fun r a b c => by (simp (disch := omega) only [up_rn])) (fun k hk => by (simp (disch := omega) only [up_rn])) (fun t ht => by (simp (disch := omega) only [up_miss])) (fun t ht => by (simp (disch := omega) only [up_miss])) (fun t ht => by (simp (disch := omega) only [up_miss])) (fun t ht => by (simp (disch := omega) only [up_miss])) ⟨3, by omega, by simp (disch := omega) only [ltE, bnE, bn2E, gdE, nc, nI_add, n_mul, n_sub, ib_nI, up_hit, up_miss, n_le, n_lt, n_eq, n_eq0, n_lt0, n_0le, n_0lt, n_le0, zb_0, zb_1, if_pos, if_neg, ↓reduceIte, Nat.reduceAdd, Nat.reduceMul, Nat.reduceSub], by simp (disch := omega) only [ltE, bnE, bn2E, gdE, nc, nI_add, n_mul, n_sub, ib_nI, up_hit, up_miss, n_le, n_lt, n_eq, n_eq0, n_lt0, n_0le, n_0lt, n_le0, zb_0, zb_1, if_pos, if_neg, ↓reduceIte, Nat.reduceAdd, Nat.reduceMul, Nat.reduceSub], fun q => by omega, fun q => by omega, fun q => by simp (disch := omega) only [ltE, bnE, bn2E, gdE, nc, nI_add, n_mul, n_sub, ib_nI, up_hit, up_miss, n_le, n_lt, n_eq, n_eq0, n_lt0, n_0le, n_0lt, n_le0, zb_0, zb_1, if_pos, if_neg, ↓reduceIte, Nat.reduceAdd, Nat.reduceMul, Nat.reduceSub]⟩⟩
    · simp (disch := omega) only [ltE, bnE, bn2E, gdE, nc, nI_add, n_mul, n_sub, ib_nI, up_hit, up_miss, n_le, n_lt, n_eq, n_eq0, n_lt0, n_0le, n_0lt, n_le0, zb_0, zb_1, if_pos, if_neg, ↓reduceIte, Nat.reduceAdd, Nat.reduceMul, Nat.reduceSub, fX11_lay_38, fX11_lay_53, fX11_lay_74, ov, Nat.reduceEqDiff]
    · simp (disch := omega) only [ltE, bnE, bn2E, gdE, nc, nI_add, n_mul, n_sub, ib_nI, up_hit, up_miss, n_le, n_lt, n_eq, n_eq0, n_lt0, n_0le, n_0lt, n_le0, zb_0, zb_1, if_pos, if_neg, ↓reduceIte, Nat.reduceAdd, Nat.reduceMul, Nat.reduceSub, fX12_lay_29, fX12_lay_44, fX12_lay_62, fX12_lay_111, fX12_lay_132, L, Nat.reduceEqDiff]
end WL
