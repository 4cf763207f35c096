/-! a step dropped; what is counted -/
theorem cpS {m : Mm} {a j c i : Nat} (hj : j < 1000) (hc : c < 1000) : cpR m a a (nI (j + 1)) (nI j) (nI c) a i = if j ≤ i ∧ i < j + c then m a (i + 1) else m a i := by
  unfold cpR upR
  rw [if_pos rfl, nc (by omega), nc (by omega), nc (by omega)]
  by_cases h : j ≤ i ∧ i < j + c
  · rw [pk_cpy_in h.1 h.2, if_pos h]; congr 1; omega
  · rw [pk_cpy_out (by omega), if_neg h]
theorem acS {s d c k : Nat} (h1 : s + c ≤ k) (h2 : d + c ≤ k) (h3 : k ≤ 1000) : acb (nI s) (nI d) (nI c) k k = true := by
  unfold acb
  rw [decide_eq_true_eq, nc (by omega), nc (by omega), nc (by omega)]
  exact ⟨fun h => nI_pos (by omega) h, fun h => nI_pos (by omega) h, fun h => nI_pos (by omega) h, h1, h2⟩
def sg (j i : Nat) : Nat := if j ≤ i then i + 1 else i
section WD
variable {n : Nat}
theorem s_drop (hn : 2000 ≤ n) : SP_drop Inv n := by
  intro N f m a1 hI
  have hI' := hI
  obtain ⟨hN, ⟨h0, nC, nw, ns, nk, ny, no, nt, h1, h2, h3, h4, h5, h6, h7⟩, hO⟩ := hI
  obtain ⟨g1, g2, g3, g4, g5, g6, g7⟩ := h3
  have g2 : f 10 4 = nI ns := g2
  unfold fX11_drop fX12_drop
  simp (disch := omega) only [ltE, bnE, bn2E, gdE, nc, nI_add, n_mul, n_sub, ib_nI, up_hit, up_miss, n_le, n_lt, n_eq, n_eq0, n_lt0, n_0le, n_0lt, n_le0, zb_0, zb_1, if_pos, if_neg, ↓reduceIte, Nat.reduceAdd, Nat.reduceMul, Nat.reduceSub, c_has8 g2, r_isStep, g3, bI_ite]
  cases hb : inB a1 (nI 0) (nI ns - nI 1)
  · exact ⟨_, f, m, rfl, rfl, hI'⟩
  obtain ⟨j, j1, rfl⟩ := inB_h (by omega) hb
  have L := loopInv (fun q i (s : Mm) => fX12_drop_29L n q (nI i) s) (91 + 4 * (ns - 1)) (fun i s => 91 + 4 * j ≤ i ∧ (∀ k, k ≠ 108 → s k = m k) ∧ ∀ k, s 108 k = if k = 8 then nI (ns - 1) else if 91 + 4 * j ≤ k ∧ k < i then m 108 (k + 4) else m 108 k)
    (fun r => r.1 = nI (ns - 1) ∧ (∀ k, k ≠ 108 → r.2 k = m k) ∧ ∀ k, r.2 108 k = if k = 8 then nI (ns - 1) else if 91 + 4 * j ≤ k ∧ k < 91 + 4 * (ns - 1) then m 108 (k + 4) else m 108 k) ?_ ?_ n (91 + 4 * j) (up m 108 8 (nI (ns - 1))) (by omega) (by omega) ⟨Nat.le_refl _, fun k hk => up_rn hk, fun k => ?_⟩
  · obtain ⟨⟨r, m1⟩, e, hr, z1, z2⟩ := L
    have hr : r = nI (ns - 1) := hr
    subst hr
    dsimp only at z1 z2
    have z8 : m1 108 8 = nI (ns - 1) := by rw [z2 8, if_pos rfl]
    simp (disch := omega) only [ltE, bnE, bn2E, gdE, nc, nI_add, n_mul, n_sub, ib_nI, up_hit, up_miss, n_le, n_lt, n_eq, n_eq0, n_lt0, n_0le, n_0lt, n_le0, zb_0, zb_1, if_pos, if_neg, ↓reduceIte, Nat.reduceAdd, Nat.reduceMul, Nat.reduceSub, cond_true, fX8_removeAt, acS, cp_miss, g2]
    refine ⟨_, _, _, rfl, e, hI'.w ?_ (fun k hk => ?_) (lwSame.of (fun k hk => ?_)) (fun k k1 _ _ _ _ _ => z1 k k1) ?_⟩
    · have A : ∀ r, 11 ≤ r → r ≤ 14 → ∀ i, i < ns - 1 → (cpR (cpR (cpR (cpR (up f 10 4 (nI (ns - 1))) 11 11 (nI (j + 1)) (nI j) (nI (ns - 1 - j))) 12 12 (nI (j + 1)) (nI j) (nI (ns - 1 - j))) 13 13 (nI (j + 1)) (nI j) (nI (ns - 1 - j))) 14 14 (nI (j + 1)) (nI j) (nI (ns - 1 - j))) r i = f r (sg j i) := by
        intro r r1 r2 i hi
        unfold sg
        have : r = 11 ∨ r = 12 ∨ r = 13 ∨ r = 14 := by omega
        rcases this with rfl | rfl | rfl | rfl <;> by_cases q : j ≤ i
        all_goals simp (disch := omega) only [cp_miss, cpS, up_miss, q, true_and, false_and, if_true, if_false]
        all_goals rw [if_pos (by omega)]
      have B : ∀ c i, 91 ≤ c → c < 95 → i < ns - 1 → m1 108 (c + 4 * i) = m 108 (c + 4 * sg j i) := by
        intro c i c1 c2 hi
        unfold sg
        rw [z2, if_neg (by omega)]
        by_cases q : j ≤ i
        · rw [if_pos (by omega), if_pos q]; congr 1
        · rw [if_neg (by omega), if_neg q]
      have C : ∀ i, i < ns - 1 → sg j i < ns := by intro i hi; unfold sg; split <;> omega
      refine putSt (ns' := ns - 1) h0 h1 h2 h4 h5 h6 h7 ⟨by omega, by simp (disch := omega) only [ltE, bnE, bn2E, gdE, nc, nI_add, n_mul, n_sub, ib_nI, up_hit, up_miss, n_le, n_lt, n_eq, n_eq0, n_lt0, n_0le, n_0lt, n_le0, zb_0, zb_1, if_pos, if_neg, ↓reduceIte, Nat.reduceAdd, Nat.reduceMul, Nat.reduceSub, cp_miss], z8, fun i hi => ?_, fun i hi => ?_, fun i hi => ?_, fun i hi => ?_⟩ (by simp (disch := omega) only [cp_rn, up_rn]) (fun k k1 k2 k3 k4 k5 k6 k7 => by simp (disch := omega) only [cp_rn, up_rn]) (fun i hi => ?_) (lwSame.of (fun k hk => by simp (disch := omega) only [cp_rn, up_rn]))
      · obtain ⟨k, q1, q2, q3⟩ := g4 (sg j i) (C i hi)
        exact ⟨k, q1, (A 11 (by omega) (by omega) i hi).trans q2, (B 91 i (by omega) (by omega) hi).trans q3⟩
      · obtain ⟨k, q1, q2, q3⟩ := g5 (sg j i) (C i hi)
        exact ⟨k, q1, (A 12 (by omega) (by omega) i hi).trans q2, (B 92 i (by omega) (by omega) hi).trans q3⟩
      · exact (A 13 (by omega) (by omega) i hi).trans ((g6 (sg j i) (C i hi)).trans (B 93 i (by omega) (by omega) hi).symm)
      · rw [B 94 i (by omega) (by omega) hi]
        exact ⟨(A 14 (by omega) (by omega) i hi).trans (g7 (sg j i) (C i hi)).1, (g7 (sg j i) (C i hi)).2⟩
      · rw [z2, if_neg (by omega), if_neg (by omega)]
    · simp (disch := omega) only [cp_rn, up_rn]
    · simp (disch := omega) only [cp_rn, up_rn]
    · rw [z2, if_neg (by omega), if_neg (by omega)]
  · rintro q s ⟨_, w1, w2⟩
    have e8 : s 108 8 = nI (ns - 1) := by rw [w2 8, if_pos rfl]
    exact ⟨(nI (ns - 1), s), by simp (disch := omega) only [ltE, bnE, bn2E, gdE, nc, nI_add, n_mul, n_sub, ib_nI, up_hit, up_miss, n_le, n_lt, n_eq, n_eq0, n_lt0, n_0le, n_0lt, n_le0, zb_0, zb_1, if_pos, if_neg, ↓reduceIte, Nat.reduceAdd, Nat.reduceMul, Nat.reduceSub, fX12_drop_29, fX12_drop_29L, e8, Nat.le_refl], rfl, w1, w2⟩
  · rintro q i s hi ⟨hlo, w1, w2⟩
    have e8 : s 108 8 = nI (ns - 1) := by rw [w2 8, if_pos rfl]
    refine Or.inr ⟨up s 108 i (s 108 (i + 4)), by simp (disch := omega) only [ltE, bnE, bn2E, gdE, nc, nI_add, n_mul, n_sub, ib_nI, up_hit, up_miss, n_le, n_lt, n_eq, n_eq0, n_lt0, n_0le, n_0lt, n_le0, zb_0, zb_1, if_pos, if_neg, ↓reduceIte, Nat.reduceAdd, Nat.reduceMul, Nat.reduceSub, fX12_drop_29, fX12_drop_29L, e8, show ¬ 91 + 4 * (ns - 1) ≤ i from by omega], by omega, fun k hk => by rw [up_rn hk]; exact w1 k hk, fun k => ?_⟩
    by_cases e : k = i
    · subst e
      rw [up_hit, w2 (k + 4), if_neg (by omega), if_neg (by omega), if_neg (by omega), if_pos (by omega)]
    · rw [up_miss (Or.inr e), w2 k]
      by_cases e2 : k = 8
      · rw [if_pos e2, if_pos e2]
      · rw [if_neg e2, if_neg e2]
        by_cases e3 : 91 + 4 * j ≤ k ∧ k < i
        · rw [if_pos e3, if_pos (by omega)]
        · rw [if_neg e3, if_neg (by omega)]
  · by_cases e : k = 8
    · subst e; rw [up_hit, if_pos rfl]
    · rw [up_miss (Or.inr e), if_neg e, if_neg (by omega)]
end WD
