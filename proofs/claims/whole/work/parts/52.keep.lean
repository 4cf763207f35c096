/-! worlds that are taken over: kept, gone back to, checked -/
theorem cp_in {m : Mm} {a0 a1 j c : Nat} (hc : c < 2147483648) (h : j < c) : cpR m a0 a1 (nI 0) (nI 0) (nI c) a1 j = m a0 j := by
  unfold cpR upR
  rw [if_pos rfl, nc hc, nc (by omega), pk_cpy_in (by omega) (by omega)]
  congr 1; omega
theorem cp_rn {m : Mm} {a0 a1 b : Nat} {s d c : Int32} (h : b ≠ a1) : cpR m a0 a1 s d c b = m b := if_neg h
theorem cp_miss {m : Mm} {a0 a1 b j : Nat} {s d c : Int32} (h : b ≠ a1) : cpR m a0 a1 s d c b j = m b j := by rw [cp_rn h]
theorem lwsB_t {N : Nat} {r : Nat → Int32} (hN : N ≤ 65) (h : ∀ t, t < 14 → r t = 0 ∨ ∃ j, j < N ∧ r t = nI (j + 1)) : lwsB N r 14 = true := by
  unfold lwsB
  rw [List.all_eq_true]
  intro t ht
  rw [List.mem_range] at ht
  rw [Bool.or_eq_true, decide_eq_true_eq]
  rcases h t ht with q | ⟨j, q1, q2⟩
  · exact Or.inl q
  · exact Or.inr (by rw [q2]; exact lkb_t q1 hN)
theorem c_take {n N o b : Nat} {f : Mm} {a : Nat → Int32} (hN : N ≤ 65) (hW : RW N f b a) (hob : o + 24 ≤ b ∨ b + 24 ≤ o) (ho : o + 24 ≤ 130) (hb : b + 24 ≤ 130) (r1 : f (o + 5) 3 = nI 20) (r2 : f (o + 17) 3 = nI 10) :
    ∃ f', fX10_takeOver n N o b f = some f' ∧ RW N f' o a ∧ ∀ k, k < o ∨ o + 24 ≤ k → f' k = f k := by
  have hl : lwsB N (f (b + 14)) 14 = true := by
    obtain ⟨_, _, _, _, _, _, _, _, _, _, _, _, _, _, h7⟩ := hW
    exact lwsB_t hN h7.2.2.2.2.1
  unfold fX10_takeOver fX1_takeOver fX7_takeOver fX8_takeOver fX4_takeOver
  simp (disch := omega) only [ltE, bnE, bn2E, gdE, nc, nI_add, n_mul, n_sub, ib_nI, up_hit, up_miss, n_le, n_lt, n_eq, n_eq0, n_lt0, n_0le, n_0lt, n_le0, zb_0, zb_1, if_pos, if_neg, ↓reduceIte, Nat.reduceAdd, Nat.reduceMul, Nat.reduceSub, Nat.add_assoc, cp_rn, cp_miss, up_rn, hl]
  refine ⟨_, rfl, hW.mv ?_ ?_ ?_ ?_ ?_ ?_ ?_ ?_ ?_ ?_ ?_ ?_ ?_ ?_ ?_ ?_ (lwSame.of (fun k hk => ?_)) (fun i _ => rfl), fun k hk => ?_⟩
  · intro j hj
    have : j = 0 ∨ j = 1 ∨ j = 2 ∨ j = 3 ∨ j = 4 ∨ j = 5 ∨ j = 10 ∨ j = 13 := by omega
    rcases this with rfl | rfl | rfl | rfl | rfl | rfl | rfl | rfl <;> simp (disch := omega) only [up_hit, up_miss, cp_miss]
  · simp (disch := omega) only [up_hit, up_miss, cp_miss]
  · intro d i d1 d2 hi
    have : d = 2 ∨ d = 3 ∨ d = 4 := by omega
    rcases this with rfl | rfl | rfl <;> simp (disch := omega) only [up_hit, up_miss, cp_miss, cp_in]
  · simp (disch := omega) only [up_hit, up_miss, cp_miss]
  · simp (disch := omega) only [up_hit, up_miss, cp_miss, r1]
  · intro d i d1 d2 hi
    have : d = 6 ∨ d = 7 ∨ d = 8 := by omega
    rcases this with rfl | rfl | rfl <;> simp (disch := omega) only [up_hit, up_miss, cp_miss, cp_in]
  · simp (disch := omega) only [up_hit, up_miss, cp_miss]
  · intro d i d1 d2 hi
    have : d = 10 ∨ d = 11 ∨ d = 12 ∨ d = 13 := by omega
    rcases this with rfl | rfl | rfl | rfl <;> simp (disch := omega) only [up_hit, up_miss, cp_miss, cp_in]
  · intro i hi; simp (disch := omega) only [up_hit, up_miss, cp_miss, cp_in]
  · intro i hi; simp (disch := omega) only [up_hit, up_miss, cp_miss, cp_in]
  · intro i hi; simp (disch := omega) only [up_hit, up_miss, cp_miss, cp_in]
  · simp (disch := omega) only [up_hit, up_miss, cp_miss]
  · simp (disch := omega) only [up_hit, up_miss, cp_miss, r2]
  · intro d i d1 d2 hi
    have : d = 18 ∨ d = 19 ∨ d = 20 := by omega
    rcases this with rfl | rfl | rfl <;> simp (disch := omega) only [up_hit, up_miss, cp_miss, cp_in]
  · simp (disch := omega) only [up_hit, up_miss, cp_miss]
  · intro d i d1 d2 hi
    have : d = 22 ∨ d = 23 := by omega
    rcases this with rfl | rfl <;> simp (disch := omega) only [up_hit, up_miss, cp_miss, cp_in]
  · simp (disch := omega) only [up_rn, cp_rn]
  · simp (disch := omega) only [up_rn, cp_rn]
theorem r_copyAll {n b1 b2 : Nat} {m : Mm} (hn : 2000 ≤ n) (hb : b1 ≠ b2) : ∃ m', fX12_copyAll n b1 b2 m = some m' ∧ (∀ i, i < 1719 → m' b2 i = m b1 i) ∧ ∀ k, k ≠ b2 → m' k = m k := by
  unfold fX12_copyAll
  have L := loopInv (fun q i (s : Mm) => fX12_copyAll_2L n b1 b2 q (nI i) s) 1719 (fun i s => (∀ j, j < i → s b2 j = m b1 j) ∧ ∀ k, k ≠ b2 → s k = m k) (fun r => (∀ j, j < 1719 → r b2 j = m b1 j) ∧ ∀ k, k ≠ b2 → r k = m k)
    (fun q s h => ⟨s, by simp (disch := omega) only [ltE, bnE, bn2E, gdE, nc, nI_add, n_mul, n_sub, ib_nI, up_hit, up_miss, n_le, n_lt, n_eq, n_eq0, n_lt0, n_0le, n_0lt, n_le0, zb_0, zb_1, if_pos, if_neg, ↓reduceIte, Nat.reduceAdd, Nat.reduceMul, Nat.reduceSub, fX12_copyAll_2, fX12_copyAll_2L, Nat.le_refl], h⟩) ?_ n 0 m (by omega) (by omega) ⟨fun j hj => by omega, fun k _ => rfl⟩
  · obtain ⟨r, e, h1, h2⟩ := L
    exact ⟨r, e, h1, h2⟩
  · intro q i s hi h
    refine Or.inr ⟨up s b2 i (s b1 i), by simp (disch := omega) only [ltE, bnE, bn2E, gdE, nc, nI_add, n_mul, n_sub, ib_nI, up_hit, up_miss, n_le, n_lt, n_eq, n_eq0, n_lt0, n_0le, n_0lt, n_le0, zb_0, zb_1, if_pos, if_neg, ↓reduceIte, Nat.reduceAdd, Nat.reduceMul, Nat.reduceSub, fX12_copyAll_2, fX12_copyAll_2L, show ¬ 1719 ≤ i from by omega], ?_⟩
    refine ⟨fun j hj => ?_, fun k hk => ?_⟩
    · by_cases e : j = i
      · subst e; rw [up_hit, h.2 b1 hb]
      · rw [up_miss (Or.inr e)]; exact h.1 j (by omega)
    · rw [up_rn hk]; exact h.2 k hk
/-- the rest stands, the image and what was told apart -/
theorem ROt.mk2 {N : Nat} {f f' m m' : Mm} (h : ROt N f m) (hi : cIm N f' m') (ht : cTe f' m') (hr : cRm f') (hf : ∀ k, (73 ≤ k ∧ k < 98) ∨ (99 ≤ k ∧ k < 102) → f' k = f k) (hm : ∀ k, (111 ≤ k ∧ k ≤ 113) ∨ (121 ≤ k ∧ k ≤ 127) → m' k = m k) (h5 : m' 107 5 = m 107 5) : ROt N f' m' := by
  obtain ⟨h1, h2, h3, h4, h5', ⟨h6, h7⟩, h8⟩ := h
  refine ⟨hi, fun i hi => ?_, fun i hi => ?_, ht, ?_, ⟨fun i hi => ?_, fun i hi => ?_⟩, hr⟩
  · rw [hf (74 + 2 * i) (by omega), hf (75 + 2 * i) (by omega), hm 121 (by omega), hm 122 (by omega), hm 123 (by omega)]
    exact h2 i hi
  · rw [hf (83 + 3 * i) (by omega), hf (84 + 3 * i) (by omega), hf (85 + 3 * i) (by omega), hm 124 (by omega), hm 125 (by omega), hm 126 (by omega), hm 127 (by omega)]
    exact h3 i hi
  · unfold cTp at *
    rw [hf 100 (by omega), hf 101 (by omega), h5, hm 111 (by omega)]
    exact h5'
  · rw [hm 112 (by omega)]; exact h6 i hi
  · rw [hm 113 (by omega)]; exact h7 i hi
theorem RW.room {N o : Nat} {f : Mm} {a : Nat → Int32} (h : RW N f o a) : f (o + 5) 3 = nI 20 ∧ f (o + 17) 3 = nI 10 := by
  obtain ⟨_, _, _, _, _, _, _, _, _, k2, _, _, k5, _⟩ := h
  exact ⟨k2.2.2.2.1, k5.2.2.2.1⟩
section WK
variable {n : Nat}
theorem s_keep (hn : 2000 ≤ n) : SP_keep Inv n := by
  intro N f m hI
  obtain ⟨hN, hW, hO⟩ := hI
  obtain ⟨f1, e1, g1, g2⟩ := c_take (n := n) (o := 25) hN hW (by omega) (by omega) (by omega) hO.2.2.2.2.2.2.1 hO.2.2.2.2.2.2.2.1
  obtain ⟨m1, e2, k1, k2⟩ := r_copyAll (n := n) (m := m) (b1 := 108) (b2 := 109) hn (by omega)
  have d0 : f1 1 0 = m1 108 1 := by rw [g2 1 (by omega), k2 108 (by omega)]; exact hW.1.1
  refine ⟨m1 108 1, up f1 0 3 (nI 1), up m1 107 3 (nI 1), ?_, ?_, hN, ?_, ?_⟩
  · unfold fX11_keep
    simp (disch := omega) only [ltE, bnE, bn2E, gdE, nc, nI_add, n_mul, n_sub, ib_nI, up_hit, up_miss, n_le, n_lt, n_eq, n_eq0, n_lt0, n_0le, n_0lt, n_le0, zb_0, zb_1, if_pos, if_neg, ↓reduceIte, Nat.reduceAdd, Nat.reduceMul, Nat.reduceSub, e1, d0]
  · unfold fX12_keep
    simp (disch := omega) only [ltE, bnE, bn2E, gdE, nc, nI_add, n_mul, n_sub, ib_nI, up_hit, up_miss, n_le, n_lt, n_eq, n_eq0, n_lt0, n_0le, n_0lt, n_le0, zb_0, zb_1, if_pos, if_neg, ↓reduceIte, Nat.reduceAdd, Nat.reduceMul, Nat.reduceSub, e2]
  · rw [up_rn (by omega), k2 108 (by omega)]
    exact hW.cg (fun k a b => by rw [up_rn (by omega), g2 k (by omega)]) (lwSame.of (fun k hk => by rw [up_rn (by omega), g2 k (by omega)])) (fun _ => rfl)
  · refine hO.mk2 ⟨?_, Or.inr ⟨up_hit, up_hit, ?_, ?_⟩⟩ ?_ ?_ (fun k hk => by rw [up_rn (by omega), g2 k (by omega)]) (fun k hk => by rw [up_rn (by omega), k2 k (by omega)]) (by rw [up_miss (by omega), k2 107 (by omega)])
    · rw [up_rn (by omega), k2 108 (by omega)]; exact hO.1.1
    · rw [up_rn (by omega)]
      exact g1.cg2 (fun k a b => by rw [up_rn (by omega)]) (lwSame.of (fun k hk => by rw [up_rn (by omega)])) k1
    · rw [up_rn (by omega), k1 1 (by omega)]; exact hO.1.1
    · obtain ⟨k, q1, q2, q3, q4⟩ := hO.2.2.2.1
      exact ⟨k, q1, by rw [up_miss (by omega), g2 0 (by omega)]; exact q2, by rw [up_miss (by omega), k2 107 (by omega)]; exact q3, fun i hi => by rw [up_rn (by omega), up_rn (by omega), g2 98 (by omega), k2 129 (by omega)]; exact q4 i hi⟩
    · unfold cRm
      have r := g1.room
      rw [up_rn (by omega), up_rn (by omega), up_rn (by omega), up_rn (by omega), g2 54 (by omega), g2 66 (by omega)]
      exact ⟨r.1, r.2, hO.2.2.2.2.2.2.2.2⟩
theorem s_back (hn : 2000 ≤ n) : SP_back Inv n := by
  intro N f m hI
  have hI' := hI
  obtain ⟨hN, hW, hO⟩ := hI
  unfold fX11_back fX12_back
  rcases hO.1.2 with ⟨i1, i2⟩ | ⟨i1, i2, i3, i4⟩
  · rw [if_pos i1, if_pos i2]
    exact ⟨_, f, m, rfl, rfl, hI'⟩
  have r := hW.room
  obtain ⟨f1, e1, g1, g2⟩ := c_take (n := n) (o := 1) hN i3 (by omega) (by omega) (by omega) r.1 r.2
  obtain ⟨m1, e2, k1, k2⟩ := r_copyAll (n := n) (m := m) (b1 := 109) (b2 := 108) hn (by omega)
  have d0 : f1 1 0 = m1 108 1 := by rw [k1 1 (by omega)]; exact g1.1.1
  refine ⟨m1 108 1, f1, m1, ?_, ?_, hN, ?_, ?_⟩
  · simp (disch := omega) only [ltE, bnE, bn2E, gdE, nc, nI_add, n_mul, n_sub, ib_nI, up_hit, up_miss, n_le, n_lt, n_eq, n_eq0, n_lt0, n_0le, n_0lt, n_le0, zb_0, zb_1, if_pos, if_neg, ↓reduceIte, Nat.reduceAdd, Nat.reduceMul, Nat.reduceSub, i1, e1, d0]
  · simp (disch := omega) only [ltE, bnE, bn2E, gdE, nc, nI_add, n_mul, n_sub, ib_nI, up_hit, up_miss, n_le, n_lt, n_eq, n_eq0, n_lt0, n_0le, n_0lt, n_le0, zb_0, zb_1, if_pos, if_neg, ↓reduceIte, Nat.reduceAdd, Nat.reduceMul, Nat.reduceSub, i2, e2]
  · exact g1.cg2 (fun k a b => rfl) (lwSame.of (fun k hk => rfl)) k1
  · refine hO.mk2 ⟨?_, Or.inr ⟨?_, ?_, ?_, ?_⟩⟩ ?_ ?_ (fun k hk => g2 k (by omega)) (fun k hk => k2 k (by omega)) (by rw [k2 107 (by omega)])
    · rw [k1 1 (by omega)]; exact i4
    · rw [g2 0 (by omega)]; exact i1
    · rw [k2 107 (by omega)]; exact i2
    · rw [k2 109 (by omega)]
      exact i3.cg (fun k a b => g2 k (by omega)) (lwSame.of (fun k hk => g2 k (by omega))) (fun _ => rfl)
    · rw [k2 109 (by omega)]; exact i4
    · unfold cTe
      rw [g2 0 (by omega), g2 98 (by omega), k2 107 (by omega), k2 129 (by omega)]
      exact hO.2.2.2.1
    · unfold cRm
      rw [g2 30 (by omega), g2 42 (by omega), g2 54 (by omega), g2 66 (by omega)]
      exact hO.2.2.2.2.2.2
end WK
/-- as loopSim, and it may use that there is fuel -/
theorem loopSimQ {σ τ ρ π : Type} (F : Nat → Nat → σ → Option ρ) (K : Nat → Nat → τ → Option π) (n : Nat) (R : Nat → σ → τ → Prop) (Z : ρ → π → Prop)
    (hend : ∀ q s t, R n s t → ∃ r p, F (q + 1) n s = some r ∧ K (q + 1) n t = some p ∧ Z r p)
    (hstp : ∀ q i s t, i < n → n - i ≤ q → R i s t → (∃ r p, F (q + 1) i s = some r ∧ K (q + 1) i t = some p ∧ Z r p) ∨ (∃ s' t', F (q + 1) i s = F q (i + 1) s' ∧ K (q + 1) i t = K q (i + 1) t' ∧ R (i + 1) s' t')) :
    ∀ q i s t, i ≤ n → n - i < q → R i s t → ∃ r p, F q i s = some r ∧ K q i t = some p ∧ Z r p := by
  intro q
  induction q with
  | zero => intro i s t h1 h2; omega
  | succ q ih =>
    intro i s t h1 h2 hR
    by_cases e : i = n
    · subst e
      exact hend q s t hR
    · rcases hstp q i s t (by omega) (by omega) hR with h | ⟨s', t', e1, e2, h⟩
      · exact h
      · rw [e1, e2]
        exact ih (i + 1) s' t' (by omega) (by omega) h
