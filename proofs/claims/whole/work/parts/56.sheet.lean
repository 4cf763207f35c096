/-! sheets and slots -/
theorem cSh.cg {f f' m m' : Mm} (h : cSh f m) (hf : ∀ k, 74 ≤ k → k < 82 → f' k = f k) (hm : ∀ k, 121 ≤ k → k ≤ 123 → m' k = m k) : cSh f' m' := by
  intro i hi
  rw [hf (74 + 2 * i) (by omega) (by omega), hf (75 + 2 * i) (by omega) (by omega), hm 121 (by omega) (by omega), hm 122 (by omega) (by omega), hm 123 (by omega) (by omega)]
  exact h i hi
theorem cSl.cg {f f' m m' : Mm} (h : cSl f m) (hf : ∀ k, 83 ≤ k → k < 98 → f' k = f k) (hm : ∀ k, 124 ≤ k → k ≤ 127 → m' k = m k) : cSl f' m' := by
  intro i hi
  rw [hf (83 + 3 * i) (by omega) (by omega), hf (84 + 3 * i) (by omega) (by omega), hf (85 + 3 * i) (by omega) (by omega), hm 124 (by omega) (by omega), hm 125 (by omega) (by omega), hm 126 (by omega) (by omega), hm 127 (by omega) (by omega)]
  exact h i hi
theorem Inv.sh {N : Nat} {f f' m m' : Mm} (h : Inv N f m) (hs : cSh f' m') (hsl : cSl f' m') (hf : ∀ k, k < 74 ∨ 98 ≤ k → f' k = f k) (hm : ∀ k, k < 121 ∨ 129 ≤ k → m' k = m k) : Inv N f' m' := by
  obtain ⟨hN, hW, h1, h2, h3, h4, h5, ⟨h6, h7⟩, h8⟩ := h
  have hl : lwSame N f f' := lwSame.of (fun k hk => hf k (by omega))
  refine ⟨hN, ?_, ?_, hs, hsl, ?_, ?_, ⟨fun i hi => ?_, fun i hi => ?_⟩, ?_⟩
  · rw [hm 108 (by omega)]; exact hW.cg (fun k a b => hf k (by omega)) hl (fun _ => rfl)
  · unfold cIm at *
    rw [hf 0 (by omega), hm 107 (by omega), hm 109 (by omega), hm 108 (by omega)]
    exact ⟨h1.1, h1.2.elim Or.inl (fun q => Or.inr ⟨q.1, q.2.1, q.2.2.1.cg (fun k k1 k2 => hf k (by omega)) hl (fun _ => rfl), q.2.2.2⟩)⟩
  · unfold cTe at *
    rw [hf 0 (by omega), hf 98 (by omega), hm 107 (by omega), hm 129 (by omega)]
    exact h4
  · unfold cTp at *
    rw [hf 100 (by omega), hf 101 (by omega), hm 107 (by omega), hm 111 (by omega)]
    exact h5
  · rw [hm 112 (by omega)]; exact h6 i hi
  · rw [hm 113 (by omega)]; exact h7 i hi
  · unfold cRm at *
    rw [hf 30 (by omega), hf 42 (by omega), hf 54 (by omega), hf 66 (by omega)]
    exact h8
theorem in3 {x : Int32} (h : inB x (-1) (nI 1) = true) : x = -1 ∨ ∃ s, s ≤ 1 ∧ x = nI s := by
  unfold inB at h
  rw [Bool.and_eq_true, decide_eq_true_eq, decide_eq_true_eq] at h
  by_cases q : x < 0
  · left
    have h1 := Int32.le_iff_toInt_le.mp h.1
    have h2 := Int32.lt_iff_toInt_lt.mp q
    have e1 : (-1 : Int32).toInt = -1 := by decide
    have e2 : (0 : Int32).toInt = 0 := by decide
    exact Int32.toInt_inj.mp (by omega)
  · right
    obtain ⟨j, hj, rfl⟩ := nI_of q
    have h2 := h.2
    rw [n_le hj (by omega)] at h2
    exact ⟨j, h2, rfl⟩
section WS
variable {n : Nat}
theorem c_fill {r c : Nat} {v : Int32} {f : Mm} (hn : 2000 ≤ n) (hc : c ≤ 1000) : ∃ f', fJ7_fill_53178 n r c v f = some f' ∧ (∀ i, f' r i = if i < c then v else f r i) ∧ ∀ k, k ≠ r → f' k = f k := by
  unfold fJ7_fill_53178
  rw [show Int32.ofNat c = nI c from rfl]
  have L := loopInv (fun q i (s : Mm) => fJ7_fill_53178_5L n r c q v (nI i) (nI c) s) c (fun i s => (∀ j, s r j = if j < i then v else f r j) ∧ ∀ k, k ≠ r → s k = f k) (fun x => (∀ j, x r j = if j < c then v else f r j) ∧ ∀ k, k ≠ r → x k = f k)
    (fun q s h => ⟨s, by simp (disch := omega) only [ltE, bnE, bn2E, gdE, nc, nI_add, n_mul, n_sub, ib_nI, up_hit, up_miss, n_le, n_lt, n_eq, n_eq0, n_lt0, n_0le, n_0lt, n_le0, zb_0, zb_1, if_pos, if_neg, ↓reduceIte, Nat.reduceAdd, Nat.reduceMul, Nat.reduceSub, fJ7_fill_53178_5, fJ7_fill_53178_5L, Nat.le_refl], h⟩) ?_ n 0 f (by omega) (by omega) ⟨fun j => by rw [if_neg (by omega)], fun k _ => rfl⟩
  · obtain ⟨x, e, h1, h2⟩ := L
    exact ⟨x, e, h1, h2⟩
  · intro q i s hi h
    refine Or.inr ⟨up s r i v, by simp (disch := omega) only [ltE, bnE, bn2E, gdE, nc, nI_add, n_mul, n_sub, ib_nI, up_hit, up_miss, n_le, n_lt, n_eq, n_eq0, n_lt0, n_0le, n_0lt, n_le0, zb_0, zb_1, if_pos, if_neg, ↓reduceIte, Nat.reduceAdd, Nat.reduceMul, Nat.reduceSub, fJ7_fill_53178_5, fJ7_fill_53178_5L, show ¬ c ≤ i from by omega], fun j => ?_, fun k hk => by rw [up_rn hk]; exact h.2 k hk⟩
    by_cases q : j = i
    · subst q; rw [up_hit, if_pos (by omega)]
    · rw [up_miss (Or.inr q), h.1 j]
      by_cases w : j < i
      · rw [if_pos w, if_pos (by omega)]
      · rw [if_neg w, if_neg (by omega)]
theorem r_fill {j : Nat} {m : Mm} (hn : 2000 ≤ n) (hj : j < 4) : ∃ m', fX12_sheet_66L n n (nI j) (nI 0) m = some (m 122 j, m') ∧ (∀ i, m' 123 i = if 24 * j ≤ i ∧ i < 24 * j + 24 then nI 0 else m 123 i) ∧ ∀ k, k ≠ 123 → m' k = m k := by
  have L := loopInv (fun q i (s : Mm) => fX12_sheet_66L n q (nI j) (nI i) s) 24 (fun i s => (∀ t, s 123 t = if 24 * j ≤ t ∧ t < 24 * j + i then nI 0 else m 123 t) ∧ ∀ k, k ≠ 123 → s k = m k) (fun x => x.1 = m 122 j ∧ (∀ t, x.2 123 t = if 24 * j ≤ t ∧ t < 24 * j + 24 then nI 0 else m 123 t) ∧ ∀ k, k ≠ 123 → x.2 k = m k)
    (fun q s h => ⟨(m 122 j, s), by simp (disch := omega) only [ltE, bnE, bn2E, gdE, nc, nI_add, n_mul, n_sub, ib_nI, up_hit, up_miss, n_le, n_lt, n_eq, n_eq0, n_lt0, n_0le, n_0lt, n_le0, zb_0, zb_1, if_pos, if_neg, ↓reduceIte, Nat.reduceAdd, Nat.reduceMul, Nat.reduceSub, fX12_sheet_66, fX12_sheet_66L, fX12_sheet_62, fX12_sheet_41, fX12_sheet_29, Nat.le_refl, h.2 122], rfl, h⟩) ?_ n 0 m (by omega) (by omega) ⟨fun t => by rw [if_neg (by omega)], fun k _ => rfl⟩
  · obtain ⟨⟨x, m'⟩, e, h0, h1, h2⟩ := L
    have h0 : x = m 122 j := h0
    subst h0
    exact ⟨m', e, h1, h2⟩
  · intro q i s hi h
    refine Or.inr ⟨up s 123 (24 * j + i) (nI 0), by simp (disch := omega) only [ltE, bnE, bn2E, gdE, nc, nI_add, n_mul, n_sub, ib_nI, up_hit, up_miss, n_le, n_lt, n_eq, n_eq0, n_lt0, n_0le, n_0lt, n_le0, zb_0, zb_1, if_pos, if_neg, ↓reduceIte, Nat.reduceAdd, Nat.reduceMul, Nat.reduceSub, fX12_sheet_66, fX12_sheet_66L, fX12_sheet_62, fX12_sheet_41, fX12_sheet_29, show ¬ 24 ≤ i from by omega], fun t => ?_, fun k hk => by rw [up_rn hk]; exact h.2 k hk⟩
    by_cases q : t = 24 * j + i
    · subst q; rw [up_hit, if_pos (by omega)]
    · rw [up_miss (Or.inr q), h.1 t]
      by_cases w : 24 * j ≤ t ∧ t < 24 * j + i
      · rw [if_pos w, if_pos (by omega)]
      · rw [if_neg w, if_neg (by omega)]
theorem sh_new {N j k : Nat} {f f' m m' : Mm} {x : Int32} (hI : Inv N f m) (hj : j < 4) (hk : k ≤ 24) (hx : x = -1 ∨ ∃ s, s ≤ 1 ∧ x = nI s)
    (c0 : f' (74 + 2 * j) 0 = x) (c1 : f' (74 + 2 * j) 1 = nI k) (c2 : ∀ i, i < 24 → f' (75 + 2 * j) i = nI 0) (c3 : ∀ r, r ≠ 74 + 2 * j → r ≠ 75 + 2 * j → f' r = f r)
    (r0 : ∀ i, m' 121 i = if i = j then x else m 121 i) (r1 : ∀ i, m' 122 i = if i = j then nI k else m 122 i) (r2 : ∀ i, m' 123 i = if 24 * j ≤ i ∧ i < 24 * j + 24 then nI 0 else m 123 i) (r3 : ∀ r, r ≠ 121 → r ≠ 122 → r ≠ 123 → m' r = m r) : Inv N f' m' := by
  refine hI.sh (fun i hi => ?_) (hI.2.2.2.2.1.cg (fun k a b => c3 k (by omega) (by omega)) (fun k a b => r3 k (by omega) (by omega) (by omega))) (fun k hk => c3 k (by omega) (by omega)) (fun k hk => r3 k (by omega) (by omega) (by omega))
  by_cases e : i = j
  · subst e
    refine ⟨?_, ⟨k, hk, c1, by rw [r1, if_pos rfl]⟩, fun t ht => by rw [c2 t ht, r2, if_pos (by omega)]⟩
    rw [c0, r0, if_pos rfl]
    rcases hx with q | ⟨s, q1, q2⟩
    · exact Or.inl ⟨q, q⟩
    · exact Or.inr ⟨s, q1, q2, q2⟩
  · rw [c3 (74 + 2 * i) (by omega) (by omega), c3 (75 + 2 * i) (by omega) (by omega), r0, r1, if_neg e, if_neg e]
    obtain ⟨q1, q2, q3⟩ := hI.2.2.2.1 i hi
    exact ⟨q1, q2, fun t ht => by rw [q3 t ht, r2, if_neg (by omega)]⟩
theorem c_become {j : Nat} {x v : Int32} {f : Mm} (hn : 2000 ≤ n) : ∃ f', fX5_become n (74 + 2 * j) x v f = some f' ∧ f' (74 + 2 * j) 0 = x ∧ f' (74 + 2 * j) 1 = v ∧ (∀ i, i < 24 → f' (75 + 2 * j) i = nI 0) ∧ ∀ r, r ≠ 74 + 2 * j → r ≠ 75 + 2 * j → f' r = f r := by
  unfold fX5_become
  obtain ⟨f1, e1, h1, h2⟩ := c_fill (n := n) (r := 75 + 2 * j) (c := 24) (v := nI 0) (f := up (up f (74 + 2 * j) 0 x) (74 + 2 * j) 1 v) hn (by omega)
  refine ⟨f1, ?_, ?_, ?_, fun i hi => ?_, fun r a b => ?_⟩
  · simp (disch := omega) only [ltE, bnE, bn2E, gdE, nc, nI_add, n_mul, n_sub, ib_nI, up_hit, up_miss, n_le, n_lt, n_eq, n_eq0, n_lt0, n_0le, n_0lt, n_le0, zb_0, zb_1, if_pos, if_neg, ↓reduceIte, Nat.reduceAdd, Nat.reduceMul, Nat.reduceSub, show 74 + 2 * j + 1 = 75 + 2 * j from by omega, e1]
  · rw [h2 _ (by omega), up_miss (Or.inr (by omega)), up_hit]
  · rw [h2 _ (by omega), up_hit]
  · rw [h1, if_pos hi]
  · rw [h2 r b, up_rn a, up_rn a]
theorem r_sh41 {j : Nat} {x v : Int32} {m : Mm} (hn : 2000 ≤ n) (hj : j < 4) : ∃ m', fX12_sheet_62 n (nI j) v (nI j) (up m 121 j x) = some (v, m') ∧ (∀ i, m' 121 i = if i = j then x else m 121 i) ∧ (∀ i, m' 122 i = if i = j then v else m 122 i) ∧ (∀ i, m' 123 i = if 24 * j ≤ i ∧ i < 24 * j + 24 then nI 0 else m 123 i) ∧ ∀ r, r ≠ 121 → r ≠ 122 → r ≠ 123 → m' r = m r := by
  unfold fX12_sheet_62
  obtain ⟨m1, e1, h1, h2⟩ := r_fill (n := n) (j := j) (m := up (up m 121 j x) 122 j v) hn hj
  rw [up_hit] at e1
  refine ⟨m1, ?_, fun i => ?_, fun i => ?_, fun i => ?_, fun r a b c => ?_⟩
  · simp (disch := omega) only [ltE, bnE, bn2E, gdE, nc, nI_add, n_mul, n_sub, ib_nI, up_hit, up_miss, n_le, n_lt, n_eq, n_eq0, n_lt0, n_0le, n_0lt, n_le0, zb_0, zb_1, if_pos, if_neg, ↓reduceIte, Nat.reduceAdd, Nat.reduceMul, Nat.reduceSub, e1]
  · rw [h2 _ (by omega), up_rn (by omega)]
    by_cases e : i = j
    · subst e; rw [up_hit, if_pos rfl]
    · rw [up_miss (Or.inr e), if_neg e]
  · rw [h2 _ (by omega)]
    by_cases e : i = j
    · subst e; rw [up_hit, if_pos rfl]
    · rw [up_miss (Or.inr e), if_neg e, up_rn (by omega)]
  · rw [h1, up_rn (by omega), up_rn (by omega)]
  · rw [h2 r c, up_rn b, up_rn a]
theorem m1_lt0 : ((-1 : Int32) < 0) = True := eq_true (by decide)
theorem s_sheet (hn : 2000 ≤ n) : SP_sheet Inv n := by
  intro N f m a1 a2 a3 hI
  unfold fX11_sheet fX12_sheet
  simp (disch := omega) only [ltE, bnE, bn2E, gdE, nc, nI_add, n_mul, n_sub, ib_nI, up_hit, up_miss, n_le, n_lt, n_eq, n_eq0, n_lt0, n_0le, n_0lt, n_le0, zb_0, zb_1, if_pos, if_neg, ↓reduceIte, Nat.reduceAdd, Nat.reduceMul, Nat.reduceSub, c_isSheet, r_isSheet, ite_inL, r_inB, bI_ite]
  cases hb : inB a1 (nI 0) (nI 3)
  · exact ⟨_, f, m, rfl, rfl, hI⟩
  cases hb2 : inB a2 (-1) (nI 1)
  · exact ⟨_, f, m, rfl, rfl, hI⟩
  obtain ⟨j, _, j1, rfl⟩ := inB_r (by omega) (by omega) hb
  simp only [cond_true]
  rcases in3 hb2 with rfl | ⟨s, s1, rfl⟩
  · obtain ⟨f1, e1, u1, u2, u3, u4⟩ := c_become (n := n) (j := j) (x := -1) (v := nI 0) (f := f) hn
    obtain ⟨m1, e2, v1, v2, v3, v4⟩ := r_sh41 (n := n) (j := j) (x := -1) (v := nI 0) (m := m) hn (by omega)
    refine ⟨nI 0, f1, m1, ?_, ?_, sh_new hI (by omega) (by omega) (Or.inl rfl) u1 u2 u3 u4 v1 v2 v3 v4⟩
    · simp (disch := omega) only [ltE, bnE, bn2E, gdE, nc, nI_add, n_mul, n_sub, ib_nI, up_hit, up_miss, n_le, n_lt, n_eq, n_eq0, n_lt0, n_0le, n_0lt, n_le0, zb_0, zb_1, if_pos, if_neg, ↓reduceIte, Nat.reduceAdd, Nat.reduceMul, Nat.reduceSub, e1]
    · simp (disch := omega) only [ltE, bnE, bn2E, gdE, nc, nI_add, n_mul, n_sub, ib_nI, up_hit, up_miss, n_le, n_lt, n_eq, n_eq0, n_lt0, n_0le, n_0lt, n_le0, zb_0, zb_1, if_pos, if_neg, ↓reduceIte, Nat.reduceAdd, Nat.reduceMul, Nat.reduceSub, m1_lt0, fX12_sheet_29, fX12_sheet_41, m1_le, e2]
  · have ns : ¬ nI s = -1 := fun e => (m1_nI (show s < 1000 by omega)).mp e.symm
    by_cases q1 : a3 ≤ nI 24
    · by_cases q2 : 0 ≤ a3
      · obtain ⟨k, hk, rfl⟩ := nI_of (Int32.not_lt.mpr q2)
        have q3 := q1
        rw [n_le hk (by omega)] at q3
        obtain ⟨f1, e1, u1, u2, u3, u4⟩ := c_become (n := n) (j := j) (x := nI s) (v := nI k) (f := f) hn
        obtain ⟨m1, e2, v1, v2, v3, v4⟩ := r_sh41 (n := n) (j := j) (x := nI s) (v := nI k) (m := m) hn (by omega)
        refine ⟨nI k, f1, m1, ?_, ?_, sh_new hI (by omega) (by omega) (Or.inr ⟨s, s1, rfl⟩) u1 u2 u3 u4 v1 v2 v3 v4⟩
        · simp (disch := omega) only [ltE, bnE, bn2E, gdE, nc, nI_add, n_mul, n_sub, ib_nI, up_hit, up_miss, n_le, n_lt, n_eq, n_eq0, n_lt0, n_0le, n_0lt, n_le0, zb_0, zb_1, if_pos, if_neg, ↓reduceIte, Nat.reduceAdd, Nat.reduceMul, Nat.reduceSub, ns, q3, e1]
        · simp (disch := omega) only [ltE, bnE, bn2E, gdE, nc, nI_add, n_mul, n_sub, ib_nI, up_hit, up_miss, n_le, n_lt, n_eq, n_eq0, n_lt0, n_0le, n_0lt, n_le0, zb_0, zb_1, if_pos, if_neg, ↓reduceIte, Nat.reduceAdd, Nat.reduceMul, Nat.reduceSub, q3, fX12_sheet_29, fX12_sheet_41, e2]
      · refine ⟨-1000000014, f, m, ?_, ?_, hI⟩
        · simp only [ns, q1, q2, if_true, if_false]
        · simp (disch := omega) only [ltE, bnE, bn2E, gdE, nc, nI_add, n_mul, n_sub, ib_nI, up_hit, up_miss, n_le, n_lt, n_eq, n_eq0, n_lt0, n_0le, n_0lt, n_le0, zb_0, zb_1, if_pos, if_neg, ↓reduceIte, Nat.reduceAdd, Nat.reduceMul, Nat.reduceSub, fX12_sheet_29, fX12_sheet_41, q1, q2]
    · refine ⟨-1000000001, f, m, ?_, ?_, hI⟩
      · simp only [ns, q1, if_true, if_false]
      · simp (disch := omega) only [ltE, bnE, bn2E, gdE, nc, nI_add, n_mul, n_sub, ib_nI, up_hit, up_miss, n_le, n_lt, n_eq, n_eq0, n_lt0, n_0le, n_0lt, n_le0, zb_0, zb_1, if_pos, if_neg, ↓reduceIte, Nat.reduceAdd, Nat.reduceMul, Nat.reduceSub, fX12_sheet_29, fX12_sheet_41, q1]
end WS
