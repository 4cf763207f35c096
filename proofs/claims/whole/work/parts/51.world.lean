/-! days that are run; worlds that are kept -/
theorem dayOf {a : Nat → Int32} {d : Nat} (h : a 1 = nI d) (hd : d < 2147483648) : (a 1).toNatClampNeg = d := by rw [h]; exact nc hd
section WA
variable {n : Nat}
theorem s_run (hn : 2000 ≤ n) : SP_run Inv n := by
  intro N f m a1 hI
  have hW := hI.2.1
  obtain ⟨D, D1, D2⟩ := hW.1.2.2.2.2.2.2.1
  have s0 : f 1 0 = nI D := hW.1.1.trans D2
  unfold fX11_run fX12_run
  simp (disch := omega) only [ltE, bnE, bn2E, gdE, nc, nI_add, n_mul, n_sub, ib_nI, up_hit, up_miss, n_le, n_lt, n_eq, n_eq0, n_lt0, n_0le, n_0lt, n_le0, zb_0, zb_1, if_pos, if_neg, ↓reduceIte, Nat.reduceAdd, Nat.reduceMul, Nat.reduceSub, ite_inL, r_inB, bI_ite, s0, D2]
  cases hb : inB a1 (nI 1) (nI 60)
  · exact ⟨_, f, m, rfl, rfl, hI⟩
  obtain ⟨k, k1, k2, rfl⟩ := inB_r (by omega) (by omega) hb
  by_cases q : D + k ≤ 1999
  · simp (disch := omega) only [ltE, bnE, bn2E, gdE, nc, nI_add, n_mul, n_sub, ib_nI, up_hit, up_miss, n_le, n_lt, n_eq, n_eq0, n_lt0, n_0le, n_0lt, n_le0, zb_0, zb_1, if_pos, if_neg, ↓reduceIte, Nat.reduceAdd, Nat.reduceMul, Nat.reduceSub, cond_true, q]
    have L := loopSim (fun q i (s : Mm) => fX11_run_34L n N q (nI k) (nI i) s) (fun q i (s : Mm) => fX12_run_32L n q (nI k) (nI i) s) k
      (fun i s t => Inv N s t ∧ t 108 1 = nI (D + i)) (fun r p => r.1 = p.1 ∧ Inv N r.2 p.2) ?_ ?_ n 0 f m (by omega) (by omega) ⟨hI, D2⟩
    · obtain ⟨⟨r, f1⟩, ⟨p, m1⟩, e1, e2, e3, h1⟩ := L
      have e3 : r = p := e3
      subst e3
      exact ⟨r, f1, m1, e1, e2, h1⟩
    · rintro q g w ⟨h1, h2⟩
      have e1 : g 1 1 = w 108 4 := h1.2.1.1.2.1
      exact ⟨(w 108 4, g), (w 108 4, w), by simp (disch := omega) only [ltE, bnE, bn2E, gdE, nc, nI_add, n_mul, n_sub, ib_nI, up_hit, up_miss, n_le, n_lt, n_eq, n_eq0, n_lt0, n_0le, n_0lt, n_le0, zb_0, zb_1, if_pos, if_neg, ↓reduceIte, Nat.reduceAdd, Nat.reduceMul, Nat.reduceSub, fX11_run_34, fX11_run_34L, e1], by simp (disch := omega) only [ltE, bnE, bn2E, gdE, nc, nI_add, n_mul, n_sub, ib_nI, up_hit, up_miss, n_le, n_lt, n_eq, n_eq0, n_lt0, n_0le, n_0lt, n_le0, zb_0, zb_1, if_pos, if_neg, ↓reduceIte, Nat.reduceAdd, Nat.reduceMul, Nat.reduceSub, fX12_run_32, fX12_run_32L], rfl, h1⟩
    · rintro q i g w hi ⟨h1, h2⟩
      refine Or.inr ?_
      obtain ⟨f', m', u1, u2, u3, u4, u5, u6, u7⟩ := day_sim (n := n) hn h1.1 h1.2.1 (by omega) h2 (by omega)
      refine ⟨f', m', by simp (disch := omega) only [ltE, bnE, bn2E, gdE, nc, nI_add, n_mul, n_sub, ib_nI, up_hit, up_miss, n_le, n_lt, n_eq, n_eq0, n_lt0, n_0le, n_0lt, n_le0, zb_0, zb_1, if_pos, if_neg, ↓reduceIte, Nat.reduceAdd, Nat.reduceMul, Nat.reduceSub, fX11_run_34, fX11_run_34L, u1], by simp (disch := omega) only [ltE, bnE, bn2E, gdE, nc, nI_add, n_mul, n_sub, ib_nI, up_hit, up_miss, n_le, n_lt, n_eq, n_eq0, n_lt0, n_0le, n_0lt, n_le0, zb_0, zb_1, if_pos, if_neg, ↓reduceIte, Nat.reduceAdd, Nat.reduceMul, Nat.reduceSub, fX12_run_32, fX12_run_32L, u2], h1.wd u3 (by rw [dayOf u7 (by omega)]; omega) (fun k hk => u4 k (by omega) (by omega)) u5 (fun k a _ b c _ _ => u6 k a b c), ?_⟩
      rw [u7]; rfl
  · simp (disch := omega) only [ltE, bnE, bn2E, gdE, nc, nI_add, n_mul, n_sub, ib_nI, up_hit, up_miss, n_le, n_lt, n_eq, n_eq0, n_lt0, n_0le, n_0lt, n_le0, zb_0, zb_1, if_pos, if_neg, ↓reduceIte, Nat.reduceAdd, Nat.reduceMul, Nat.reduceSub, cond_true, q]
    exact ⟨_, f, m, rfl, rfl, hI⟩
end WA
theorem lawOK.cg2 {N : Nat} {f f' : Mm} {a a' : Nat → Int32} {j t : Nat} (h : lawOK f a j t) (ht : t < 14) (hj : j < N) (hl : lwSame N f f') (ha : ∀ i, i < 1719 → a' i = a i) : lawOK f' a' j t := by
  obtain ⟨key, cs, at_, g1, g2, g2b, g3, g4, g5, g6, g7, g8, g9, g10⟩ := h
  obtain ⟨l1, l2, l3⟩ := hl j hj
  refine ⟨key, cs, at_, g1, g2, g2b, by rw [ha _ (by omega)]; exact g3, by rw [ha _ (by omega)]; exact g4, by rw [l1]; exact g5, by rw [l1]; exact g6, by rw [l2]; exact g7, by rw [l3]; exact g8, fun k hk => ?_, ?_⟩
  · rw [ha _ (by omega), l2]; exact g9 k hk
  · rw [runH.cg cs (fun i h1 h2 => ha i (by omega))]; exact g10
/-- a world as it stands elsewhere: other rows that hold the same in the places that count -/
theorem RW.mv {N o b : Nat} {f f' : Mm} {a a' : Nat → Int32} (h : RW N f b a) (hz : ∀ j, j < 6 ∨ j = 10 ∨ j = 13 → f' o j = f b j) (h1 : f' (o + 1) 3 = f (b + 1) 3) (h2 : ∀ d i, 2 ≤ d → d ≤ 4 → i < 6 → f' (o + d) i = f (b + d) i)
    (h5 : f' (o + 5) 4 = f (b + 5) 4) (h5r : f' (o + 5) 3 = nI 20) (h6 : ∀ d i, 6 ≤ d → d ≤ 8 → i < 20 → f' (o + d) i = f (b + d) i) (h9 : f' (o + 9) 4 = f (b + 9) 4) (h10 : ∀ d i, 10 ≤ d → d ≤ 13 → i < 40 → f' (o + d) i = f (b + d) i)
    (h14 : ∀ i, i < 14 → f' (o + 14) i = f (b + 14) i) (h15 : ∀ i, i < 3 → f' (o + 15) i = f (b + 15) i) (h16 : ∀ i, i < 60 → f' (o + 16) i = f (b + 16) i) (h17 : f' (o + 17) 4 = f (b + 17) 4) (h17r : f' (o + 17) 3 = nI 10) (h18 : ∀ d i, 18 ≤ d → d ≤ 20 → i < 20 → f' (o + d) i = f (b + d) i)
    (h21 : f' (o + 21) 2 = f (b + 21) 2) (h22 : ∀ d i, 22 ≤ d → d ≤ 23 → i < 8 → f' (o + d) i = f (b + d) i) (hl : lwSame N f f') (ha : ∀ i, i < 1719 → a' i = a i) : RW N f' o a' := by
  obtain ⟨k0, nC, nw, ns, nk, ny, no, nt, k1, k2, k3, k4, k5, k6, k7⟩ := h
  refine ⟨?_, nC, nw, ns, nk, ny, no, nt, ?_, ?_, ?_, ?_, ?_, ?_, ?_⟩
  · unfold cSc at *
    rw [hz 0 (by omega), hz 1 (by omega), hz 2 (by omega), hz 3 (by omega), hz 4 (by omega), hz 5 (by omega), ha 0 (by omega), ha 1 (by omega), ha 2 (by omega), ha 3 (by omega), ha 4 (by omega), ha 5 (by omega)]
    exact k0
  · obtain ⟨g1, g2, g3, g4, g5, g6⟩ := k1
    refine ⟨g1, by rw [h1]; exact g2, by rw [ha 6 (by omega)]; exact g3, fun i hi => ?_, fun i hi => ?_, fun i hi => ?_⟩
    · rw [h2 2 i (by omega) (by omega) (by omega), ha _ (by omega)]; exact g4 i hi
    · rw [h2 3 i (by omega) (by omega) (by omega), ha _ (by omega)]; exact g5 i hi
    · have := g6 i hi
      unfold mtOK at *
      rw [h2 4 i (by omega) (by omega) (by omega), ha _ (by omega)]
      rcases this with q | ⟨j, q1, q2, q3, q4, q5⟩
      · exact Or.inl q
      · exact Or.inr ⟨j, q1, q2, q3, q4, by rw [ha _ (by omega)]; exact q5⟩
  · obtain ⟨g1, g2, g3, g4, g5, g6, g7⟩ := k2
    refine ⟨g1, by rw [h5]; exact g2, by rw [ha 7 (by omega)]; exact g3, h5r, fun i hi => ?_, fun i hi => ?_, fun i hi => ?_⟩
    · rw [h6 6 i (by omega) (by omega) (by omega), ha _ (by omega)]; exact g5 i hi
    · rw [h6 7 i (by omega) (by omega) (by omega), ha _ (by omega)]; exact g6 i hi
    · rw [h6 8 i (by omega) (by omega) (by omega), ha _ (by omega)]; exact g7 i hi
  · obtain ⟨g1, g2, g3, g4, g5, g6, g7⟩ := k3
    refine ⟨g1, by rw [h9]; exact g2, by rw [ha 8 (by omega)]; exact g3, fun i hi => ?_, fun i hi => ?_, fun i hi => ?_, fun i hi => ?_⟩
    · rw [h10 10 i (by omega) (by omega) (by omega), ha _ (by omega)]; exact g4 i hi
    · rw [h10 11 i (by omega) (by omega) (by omega), ha _ (by omega)]; exact g5 i hi
    · rw [h10 12 i (by omega) (by omega) (by omega), ha _ (by omega)]; exact g6 i hi
    · rw [h10 13 i (by omega) (by omega) (by omega), ha _ (by omega)]; exact g7 i hi
  · obtain ⟨g1, g2, g3, g4⟩ := k4
    refine ⟨g1, by rw [hz 13 (by omega)]; exact g2, by rw [ha 10 (by omega)]; exact g3, fun i hi => ?_⟩
    rw [h16 i (by omega), ha _ (by omega)]; exact g4 i hi
  · obtain ⟨g1, g2, g3, g4, g5, g6⟩ := k5
    refine ⟨g1, by rw [h17]; exact g2, by rw [ha 11 (by omega)]; exact g3, h17r, fun i hi => ?_, fun i hi => ?_⟩
    · rw [h18 19 i (by omega) (by omega) (by omega), ha _ (by omega)]; exact g5 i hi
    · rw [h18 20 i (by omega) (by omega) (by omega), ha _ (by omega)]; exact g6 i hi
  · obtain ⟨g1, g2, g3, g4, g5⟩ := k6
    refine ⟨g1, by rw [h21]; exact g2, by rw [ha 12 (by omega)]; exact g3, fun i hi => ?_, fun i hi => ?_⟩
    · rw [h22 22 i (by omega) (by omega) (by omega), ha _ (by omega)]; exact g4 i hi
    · rw [h22 23 i (by omega) (by omega) (by omega), ha _ (by omega)]; exact g5 i hi
  · obtain ⟨g1, g2, g3, g4, g5, g6⟩ := k7
    refine ⟨g1, by rw [hz 10 (by omega)]; exact g2, by rw [ha 9 (by omega)]; exact g3, fun t ht => ?_, fun t ht => ?_, fun k hk => ?_⟩
    · obtain ⟨j, q1, q2, q3⟩ := g4 t ht
      exact ⟨j, q1, by rw [h14 t (by omega)]; exact q2, q3.cg2 (by omega) q1 hl ha⟩
    · rw [h14 t ht]; exact g5 t ht
    · rw [h15 k hk, lastK.cg nt (fun t _ => ha _ (by omega))]; exact g6 k hk
theorem RW.cg2 {N o : Nat} {f f' : Mm} {a a' : Nat → Int32} (h : RW N f o a) (hr : ∀ k, o ≤ k → k < o + 24 → f' k = f k) (hl : lwSame N f f') (ha : ∀ i, i < 1719 → a' i = a i) : RW N f' o a' := by
  have r : ∀ d, d < 24 → f' (o + d) = f (o + d) := fun d hd => hr (o + d) (by omega) (by omega)
  have r0 : f' o = f o := hr o (by omega) (by omega)
  have hh := h
  obtain ⟨_, _, _, _, _, _, _, _, _, k2, _, _, k5, _⟩ := h
  exact hh.mv (fun j _ => by rw [r0]) (by rw [r 1 (by omega)]) (fun d i _ _ _ => by rw [r d (by omega)]) (by rw [r 5 (by omega)]) (by rw [r 5 (by omega)]; exact k2.2.2.2.1) (fun d i _ _ _ => by rw [r d (by omega)]) (by rw [r 9 (by omega)]) (fun d i _ _ _ => by rw [r d (by omega)]) (fun i _ => by rw [r 14 (by omega)]) (fun i _ => by rw [r 15 (by omega)]) (fun i _ => by rw [r 16 (by omega)]) (by rw [r 17 (by omega)]) (by rw [r 17 (by omega)]; exact k5.2.2.2.1) (fun d i _ _ _ => by rw [r d (by omega)]) (by rw [r 21 (by omega)]) (fun d i _ _ _ => by rw [r d (by omega)]) hl ha
