/-! the next word of the tape, in both -/
section LXB
variable {n T : Nat} {B : Nat → Nat} {F M s t : Mm}
theorem c_173 {bw td : Bool} {g : Mm} : fX9_openNext_173 n 100 (bI bw) (bI td) g = some (if (bw && td) = true ∧ (g 100 2 = -2 ∨ g 100 2 = -3) then up g 100 2 (-4) else g) := by
  unfold fX9_openNext_173 fX9_openNext_199
  cases bw
  · rw [if_pos (show bI false = 0 from rfl), if_neg (by simp)]
  · cases td
    · rw [if_neg (by decide), if_pos (show bI false = 0 from rfl), if_neg (by simp)]
    · rw [if_neg (by decide), if_neg (by decide)]
      by_cases q1 : g 100 2 = -2
      · rw [if_pos q1, if_pos (by simp [q1])]; rfl
      · by_cases q2 : g 100 2 = -3
        · rw [if_neg q1, if_pos q2, if_pos (by simp [q2])]; rfl
        · rw [if_neg q1, if_neg q2, if_neg (by simp [q1, q2])]
theorem nI_m2 {b : Nat} (hb : b < 1000) : (nI b = -1) = False ∧ (nI b = -2) = False ∧ (nI b = -3) = False ∧ (nI b = -4) = False := by
  have key : ∀ z : Int32, z.toInt < 0 → (nI b = z) = False := fun z hz => eq_false (fun e => by
    have := congrArg Int32.toInt e
    rw [nI_toInt (by omega)] at this
    omega)
  exact ⟨key _ (by decide), key _ (by decide), key _ (by decide), key _ (by decide)⟩
theorem lexTail {st en0 : Nat} {bw : Bool} (hn : 2000 ≤ n) (hs : CB B T F s) (ht : RB B T M t) (c3 : s 100 3 = nI st) (c4 : s 100 4 = nI en0) (r6 : t 107 6 = nI st) (he : en0 ≤ st) (hT : st ≤ T)
    (h1 : bw = true → t 107 10 = nI en0) (h2 : bw = false → t 107 10 = -1 ∨ ∃ e, e < en0 ∧ t 107 10 = nI e) :
    ∃ f' m' en k v, fX9_openNext_70 n 100 (bI bw) s = some f' ∧ fX12_go_38 n t = some m' ∧ LX B T F M f' m' st en k v := by
  have hT9 := hs.1
  have cl : (nI st = t 107 10) = ((bw && decide (st = en0)) = true) := by
    cases bw
    · rcases h2 rfl with e | ⟨e, e1, e2⟩
      · rw [e]; simp only [(nI_m2 (show st < 1000 by omega)).1, Bool.false_and, Bool.false_eq_true]
      · rw [e2, n_eq (by omega) (by omega)]; simp only [Bool.false_and, Bool.false_eq_true]
        exact eq_false (by omega)
    · rw [h1 rfl, n_eq (by omega) (by omega)]; simp
  have C : fX9_openNext_70 n 100 (bI bw) s = fX9_openNext_86 n 100 (bI bw) (bI (decide (st = en0))) s := by
    unfold fX9_openNext_70
    rw [c3, c4]
    by_cases q : st = en0
    · simp only [q, decide_true, if_true]; rfl
    · simp (disch := omega) only [ltE, bnE, bn2E, gdE, nc, nI_add, n_mul, n_sub, ib_nI, up_hit, up_miss, n_le, n_lt, n_eq, n_eq0, n_lt0, n_0le, n_0lt, n_le0, zb_0, zb_1, if_pos, if_neg, ↓reduceIte, Nat.reduceAdd, Nat.reduceMul, Nat.reduceSub, q, decide_false]; rfl
  have t7 : (up t 107 7 (nI st)) 107 10 = t 107 10 := up_miss (by omega)
  have R : fX12_go_38 n t = fX12_go_62 n (bI (bw && decide (st = en0))) (up t 107 7 (nI st)) := by
    unfold fX12_go_38
    simp (disch := omega) only [ltE, bnE, bn2E, gdE, nc, nI_add, n_mul, n_sub, ib_nI, up_hit, up_miss, n_le, n_lt, n_eq, n_eq0, n_lt0, n_0le, n_0lt, n_le0, zb_0, zb_1, if_pos, if_neg, ↓reduceIte, Nat.reduceAdd, Nat.reduceMul, Nat.reduceSub, r6, cl]
    cases (bw && decide (st = en0)) <;> rfl
  rw [C, R]
  generalize decide (st = en0) = td at *
  have hs6 := hs.up (v := nI st) (j := 4) (by omega)
  have ht7 := ht.up (v := nI st) (j := 7) (by omega) (by omega)
  have d3 : up s 100 4 (nI st) 100 3 = nI st := by simp (disch := omega) only [ltE, bnE, bn2E, gdE, nc, nI_add, n_mul, n_sub, ib_nI, up_hit, up_miss, n_le, n_lt, n_eq, n_eq0, n_lt0, n_0le, n_0lt, n_le0, zb_0, zb_1, if_pos, if_neg, ↓reduceIte, Nat.reduceAdd, Nat.reduceMul, Nat.reduceSub, c3]
  have d4 : up s 100 4 (nI st) 100 4 = nI st := by simp (disch := omega) only [ltE, bnE, bn2E, gdE, nc, nI_add, n_mul, n_sub, ib_nI, up_hit, up_miss, n_le, n_lt, n_eq, n_eq0, n_lt0, n_0le, n_0lt, n_le0, zb_0, zb_1, if_pos, if_neg, ↓reduceIte, Nat.reduceAdd, Nat.reduceMul, Nat.reduceSub]
  have e7 : up t 107 7 (nI st) 107 7 = nI st := by simp (disch := omega) only [ltE, bnE, bn2E, gdE, nc, nI_add, n_mul, n_sub, ib_nI, up_hit, up_miss, n_le, n_lt, n_eq, n_eq0, n_lt0, n_0le, n_0lt, n_le0, zb_0, zb_1, if_pos, if_neg, ↓reduceIte, Nat.reduceAdd, Nat.reduceMul, Nat.reduceSub]
  have e6 : up t 107 7 (nI st) 107 6 = nI st := by simp (disch := omega) only [ltE, bnE, bn2E, gdE, nc, nI_add, n_mul, n_sub, ib_nI, up_hit, up_miss, n_le, n_lt, n_eq, n_eq0, n_lt0, n_0le, n_0lt, n_le0, zb_0, zb_1, if_pos, if_neg, ↓reduceIte, Nat.reduceAdd, Nat.reduceMul, Nat.reduceSub, r6]
  unfold fX9_openNext_86 fX12_go_62
  rw [c3]
  simp only [ltE, d3, e7, hs6.2.1, ht7.2.1]
  generalize hf0 : up s 100 4 (nI st) = f0 at *
  generalize hm0 : up t 107 7 (nI st) = m0' at *
  by_cases q : st = T
  · subst q
    refine ⟨up f0 100 2 (-1), up m0' 107 8 (nI 0), st, 0, 0, ?_, ?_, hs6.up (by omega), ht7.up (by omega) (by omega), by simp (disch := omega) only [ltE, bnE, bn2E, gdE, nc, nI_add, n_mul, n_sub, ib_nI, up_hit, up_miss, n_le, n_lt, n_eq, n_eq0, n_lt0, n_0le, n_0lt, n_le0, zb_0, zb_1, if_pos, if_neg, ↓reduceIte, Nat.reduceAdd, Nat.reduceMul, Nat.reduceSub, d3], by simp (disch := omega) only [ltE, bnE, bn2E, gdE, nc, nI_add, n_mul, n_sub, ib_nI, up_hit, up_miss, n_le, n_lt, n_eq, n_eq0, n_lt0, n_0le, n_0lt, n_le0, zb_0, zb_1, if_pos, if_neg, ↓reduceIte, Nat.reduceAdd, Nat.reduceMul, Nat.reduceSub, e7], by simp (disch := omega) only [ltE, bnE, bn2E, gdE, nc, nI_add, n_mul, n_sub, ib_nI, up_hit, up_miss, n_le, n_lt, n_eq, n_eq0, n_lt0, n_0le, n_0lt, n_le0, zb_0, zb_1, if_pos, if_neg, ↓reduceIte, Nat.reduceAdd, Nat.reduceMul, Nat.reduceSub, d4], by simp (disch := omega) only [ltE, bnE, bn2E, gdE, nc, nI_add, n_mul, n_sub, ib_nI, up_hit, up_miss, n_le, n_lt, n_eq, n_eq0, n_lt0, n_0le, n_0lt, n_le0, zb_0, zb_1, if_pos, if_neg, ↓reduceIte, Nat.reduceAdd, Nat.reduceMul, Nat.reduceSub, e6], by omega, by omega, Or.inl ⟨rfl, by simp (disch := omega) only [ltE, bnE, bn2E, gdE, nc, nI_add, n_mul, n_sub, ib_nI, up_hit, up_miss, n_le, n_lt, n_eq, n_eq0, n_lt0, n_0le, n_0lt, n_le0, zb_0, zb_1, if_pos, if_neg, ↓reduceIte, Nat.reduceAdd, Nat.reduceMul, Nat.reduceSub], by simp (disch := omega) only [ltE, bnE, bn2E, gdE, nc, nI_add, n_mul, n_sub, ib_nI, up_hit, up_miss, n_le, n_lt, n_eq, n_eq0, n_lt0, n_0le, n_0lt, n_le0, zb_0, zb_1, if_pos, if_neg, ↓reduceIte, Nat.reduceAdd, Nat.reduceMul, Nat.reduceSub], rfl, rfl⟩⟩
    · simp (disch := omega) only [ltE, bnE, bn2E, gdE, nc, nI_add, n_mul, n_sub, ib_nI, up_hit, up_miss, n_le, n_lt, n_eq, n_eq0, n_lt0, n_0le, n_0lt, n_le0, zb_0, zb_1, if_pos, if_neg, ↓reduceIte, Nat.reduceAdd, Nat.reduceMul, Nat.reduceSub, Nat.lt_irrefl, c_173]
      rw [if_neg (by rintro ⟨_, h | h⟩ <;> exact absurd h (by decide))]
    · simp (disch := omega) only [ltE, bnE, bn2E, gdE, nc, nI_add, n_mul, n_sub, ib_nI, up_hit, up_miss, n_le, n_lt, n_eq, n_eq0, n_lt0, n_0le, n_0lt, n_le0, zb_0, zb_1, if_pos, if_neg, ↓reduceIte, Nat.reduceAdd, Nat.reduceMul, Nat.reduceSub]
  have qT : st < T := by omega
  obtain ⟨b1, b2⟩ := hs6.2.2.1 st qT
  have b3 := (ht7.2.2.1 st qT).2
  cases hl : lt1 (B st)
  · cases hd : dg1 (B st)
    · obtain ⟨z1, z2, z3, z4⟩ := nI_m2 (b := B st) (by omega)
      refine ⟨up (up f0 100 2 (nI (B st))) 100 4 (nI (st + 1)), up (up (up m0' 107 8 (nI 3)) 107 9 (nI (B st))) 107 6 (nI (st + 1)), st + 1, 3, B st, ?_, ?_, (hs6.up (by omega)).up (by omega), ((ht7.up (by omega) (by omega)).up (by omega) (by omega)).up (by omega) (by omega), by simp (disch := omega) only [ltE, bnE, bn2E, gdE, nc, nI_add, n_mul, n_sub, ib_nI, up_hit, up_miss, n_le, n_lt, n_eq, n_eq0, n_lt0, n_0le, n_0lt, n_le0, zb_0, zb_1, if_pos, if_neg, ↓reduceIte, Nat.reduceAdd, Nat.reduceMul, Nat.reduceSub, d3], by simp (disch := omega) only [ltE, bnE, bn2E, gdE, nc, nI_add, n_mul, n_sub, ib_nI, up_hit, up_miss, n_le, n_lt, n_eq, n_eq0, n_lt0, n_0le, n_0lt, n_le0, zb_0, zb_1, if_pos, if_neg, ↓reduceIte, Nat.reduceAdd, Nat.reduceMul, Nat.reduceSub, e7], by simp (disch := omega) only [ltE, bnE, bn2E, gdE, nc, nI_add, n_mul, n_sub, ib_nI, up_hit, up_miss, n_le, n_lt, n_eq, n_eq0, n_lt0, n_0le, n_0lt, n_le0, zb_0, zb_1, if_pos, if_neg, ↓reduceIte, Nat.reduceAdd, Nat.reduceMul, Nat.reduceSub], by simp (disch := omega) only [ltE, bnE, bn2E, gdE, nc, nI_add, n_mul, n_sub, ib_nI, up_hit, up_miss, n_le, n_lt, n_eq, n_eq0, n_lt0, n_0le, n_0lt, n_le0, zb_0, zb_1, if_pos, if_neg, ↓reduceIte, Nat.reduceAdd, Nat.reduceMul, Nat.reduceSub], by omega, by omega, Or.inr (Or.inr (Or.inr (Or.inl ⟨rfl, by simp (disch := omega) only [ltE, bnE, bn2E, gdE, nc, nI_add, n_mul, n_sub, ib_nI, up_hit, up_miss, n_le, n_lt, n_eq, n_eq0, n_lt0, n_0le, n_0lt, n_le0, zb_0, zb_1, if_pos, if_neg, ↓reduceIte, Nat.reduceAdd, Nat.reduceMul, Nat.reduceSub], by simp (disch := omega) only [ltE, bnE, bn2E, gdE, nc, nI_add, n_mul, n_sub, ib_nI, up_hit, up_miss, n_le, n_lt, n_eq, n_eq0, n_lt0, n_0le, n_0lt, n_le0, zb_0, zb_1, if_pos, if_neg, ↓reduceIte, Nat.reduceAdd, Nat.reduceMul, Nat.reduceSub], by simp (disch := omega) only [ltE, bnE, bn2E, gdE, nc, nI_add, n_mul, n_sub, ib_nI, up_hit, up_miss, n_le, n_lt, n_eq, n_eq0, n_lt0, n_0le, n_0lt, n_le0, zb_0, zb_1, if_pos, if_neg, ↓reduceIte, Nat.reduceAdd, Nat.reduceMul, Nat.reduceSub], b1, rfl, ?_⟩)))⟩
      · simp (disch := omega) only [ltE, bnE, bn2E, gdE, nc, nI_add, n_mul, n_sub, ib_nI, up_hit, up_miss, n_le, n_lt, n_eq, n_eq0, n_lt0, n_0le, n_0lt, n_le0, zb_0, zb_1, if_pos, if_neg, ↓reduceIte, Nat.reduceAdd, Nat.reduceMul, Nat.reduceSub, qT, c_let hs6 qT, c_dig hs6 qT, hl, hd, bI_ite, cond_false, b2, d3, c_173, z2, z3, or_self, and_false]
      · simp (disch := omega) only [ltE, bnE, bn2E, gdE, nc, nI_add, n_mul, n_sub, ib_nI, up_hit, up_miss, n_le, n_lt, n_eq, n_eq0, n_lt0, n_0le, n_0lt, n_le0, zb_0, zb_1, if_pos, if_neg, ↓reduceIte, Nat.reduceAdd, Nat.reduceMul, Nat.reduceSub, q, r_let ht7 qT, r_fig ht7 qT, hl, hd, bI_ite, cond_false, b3, e7, e6]
      · simp (disch := omega) only [ltE, bnE, bn2E, gdE, nc, nI_add, n_mul, n_sub, ib_nI, up_hit, up_miss, n_le, n_lt, n_eq, n_eq0, n_lt0, n_0le, n_0lt, n_le0, zb_0, zb_1, if_pos, if_neg, ↓reduceIte, Nat.reduceAdd, Nat.reduceMul, Nat.reduceSub]
        rw [t7]
        cases bw
        · rcases h2 rfl with e | ⟨e, e1, e2⟩
          · exact Or.inl e
          · exact Or.inr ⟨e, by omega, e2⟩
        · exact Or.inr ⟨en0, by omega, h1 rfl⟩
    · obtain ⟨f', m', en, v, y1, y2, y3, y4, y5, y6, y7, y8, y9, y10, y11, y12, y13, y14, y15, y16⟩ := lexN (n := n) (x := bI (bw && td)) hn hs6 ht7 d3 d4 e7 e6 qT hd
      have z : fX9_openNext_173 n 100 (bI bw) (bI td) f' = some (if (bw && td) = true ∧ (f' 100 2 = -2 ∨ f' 100 2 = -3) then up f' 100 2 (-4) else f') := c_173
      have cc : ∀ g, (bn (some f') fun f27 => fX9_openNext_173 n 100 (bI bw) (bI td) f27) = some g ↔ some (if (bw && td) = true ∧ (f' 100 2 = -2 ∨ f' 100 2 = -3) then up f' 100 2 (-4) else f') = some g := fun g => by rw [← z]; exact Iff.rfl
      by_cases w : (bw && td) = true ∨ ¬ en - st ≤ 4
      · refine ⟨(if (bw && td) = true ∧ (f' 100 2 = -2 ∨ f' 100 2 = -3) then up f' 100 2 (-4) else f'), m', en, 4, 0, ?_, ?_, ?_⟩
        · simp (disch := omega) only [ltE, bnE, bn2E, gdE, nc, nI_add, n_mul, n_sub, ib_nI, up_hit, up_miss, n_le, n_lt, n_eq, n_eq0, n_lt0, n_0le, n_0lt, n_le0, zb_0, zb_1, if_pos, if_neg, ↓reduceIte, Nat.reduceAdd, Nat.reduceMul, Nat.reduceSub, qT, c_let hs6 qT, c_dig hs6 qT, hl, hd, bI_ite, cond_false, cond_true, y1, c_173]
        · simp (disch := omega) only [ltE, bnE, bn2E, gdE, nc, nI_add, n_mul, n_sub, ib_nI, up_hit, up_miss, n_le, n_lt, n_eq, n_eq0, n_lt0, n_0le, n_0lt, n_le0, zb_0, zb_1, if_pos, if_neg, ↓reduceIte, Nat.reduceAdd, Nat.reduceMul, Nat.reduceSub, q, r_let ht7 qT, r_fig ht7 qT, hl, hd, bI_ite, cond_false, cond_true, y2]
        · have m8 : m' 107 8 = nI 4 := by
            rw [y12]
            by_cases w1 : bI (bw && td) = 0
            · rw [if_pos w1]
              rcases w with w | w
              · rw [w] at w1; exact absurd w1 (by decide)
              · rw [if_neg w]
            · rw [if_neg w1]
          by_cases w2 : (bw && td) = true ∧ (f' 100 2 = -2 ∨ f' 100 2 = -3)
          · rw [if_pos w2]
            exact ⟨y3.up (by omega), y4, by simp (disch := omega) only [ltE, bnE, bn2E, gdE, nc, nI_add, n_mul, n_sub, ib_nI, up_hit, up_miss, n_le, n_lt, n_eq, n_eq0, n_lt0, n_0le, n_0lt, n_le0, zb_0, zb_1, if_pos, if_neg, ↓reduceIte, Nat.reduceAdd, Nat.reduceMul, Nat.reduceSub, y5], y6, by simp (disch := omega) only [ltE, bnE, bn2E, gdE, nc, nI_add, n_mul, n_sub, ib_nI, up_hit, up_miss, n_le, n_lt, n_eq, n_eq0, n_lt0, n_0le, n_0lt, n_le0, zb_0, zb_1, if_pos, if_neg, ↓reduceIte, Nat.reduceAdd, Nat.reduceMul, Nat.reduceSub, y7], y8, by omega, y10, Or.inr (Or.inr (Or.inr (Or.inr ⟨rfl, by simp (disch := omega) only [ltE, bnE, bn2E, gdE, nc, nI_add, n_mul, n_sub, ib_nI, up_hit, up_miss, n_le, n_lt, n_eq, n_eq0, n_lt0, n_0le, n_0lt, n_le0, zb_0, zb_1, if_pos, if_neg, ↓reduceIte, Nat.reduceAdd, Nat.reduceMul, Nat.reduceSub], m8, y9⟩)))⟩
          · rw [if_neg w2]
            refine ⟨y3, y4, y5, y6, y7, y8, by omega, y10, Or.inr (Or.inr (Or.inr (Or.inr ⟨rfl, ?_, m8, y9⟩)))⟩
            rw [y11]
            by_cases w3 : en - st ≤ 4
            · exfalso
              rcases w with w | w
              · exact w2 ⟨w, Or.inr (by rw [y11, if_pos w3])⟩
              · exact w w3
            · rw [if_neg w3]
      · have w1 : (bw && td) = false := by cases h : (bw && td) <;> simp_all
        have w2 : en - st ≤ 4 := by omega
        refine ⟨f', m', en, 2, v, ?_, ?_, y3, y4, y5, y6, y7, y8, by omega, y10, Or.inr (Or.inr (Or.inl ⟨rfl, by rw [y11, if_pos w2], ?_, y13, y9, y14, y16, y15⟩))⟩
        · simp (disch := omega) only [ltE, bnE, bn2E, gdE, nc, nI_add, n_mul, n_sub, ib_nI, up_hit, up_miss, n_le, n_lt, n_eq, n_eq0, n_lt0, n_0le, n_0lt, n_le0, zb_0, zb_1, if_pos, if_neg, ↓reduceIte, Nat.reduceAdd, Nat.reduceMul, Nat.reduceSub, qT, c_let hs6 qT, c_dig hs6 qT, hl, hd, bI_ite, cond_false, cond_true, y1, c_173, w1, Bool.false_eq_true, false_and]
        · simp (disch := omega) only [ltE, bnE, bn2E, gdE, nc, nI_add, n_mul, n_sub, ib_nI, up_hit, up_miss, n_le, n_lt, n_eq, n_eq0, n_lt0, n_0le, n_0lt, n_le0, zb_0, zb_1, if_pos, if_neg, ↓reduceIte, Nat.reduceAdd, Nat.reduceMul, Nat.reduceSub, q, r_let ht7 qT, r_fig ht7 qT, hl, hd, bI_ite, cond_false, cond_true, y2]
        · rw [y12, w1, if_pos (by decide), if_pos w2]
  · obtain ⟨f', m', en, y1, y2, y3, y4, y5, y6, y7, y8, y9, y10, y11, y12, y13, y14, y15⟩ := lexW (n := n) (x := bI (bw && td)) hn hs6 ht7 d3 d4 e7 e6 qT hl
    cases w : (bw && td)
    · refine ⟨f', m', en, 1, (if en = st + 1 then B st else 0), ?_, ?_, y3, y4, y5, y6, y7, y8, by omega, y10, Or.inr (Or.inl ⟨rfl, y11, ?_, y13, y9, y14, y15, rfl⟩)⟩
      · simp (disch := omega) only [ltE, bnE, bn2E, gdE, nc, nI_add, n_mul, n_sub, ib_nI, up_hit, up_miss, n_le, n_lt, n_eq, n_eq0, n_lt0, n_0le, n_0lt, n_le0, zb_0, zb_1, if_pos, if_neg, ↓reduceIte, Nat.reduceAdd, Nat.reduceMul, Nat.reduceSub, qT, c_let hs6 qT, hl, bI_ite, cond_true, y1, c_173, w, Bool.false_eq_true, false_and]
      · rw [w] at y2
        simp (disch := omega) only [ltE, bnE, bn2E, gdE, nc, nI_add, n_mul, n_sub, ib_nI, up_hit, up_miss, n_le, n_lt, n_eq, n_eq0, n_lt0, n_0le, n_0lt, n_le0, zb_0, zb_1, if_pos, if_neg, ↓reduceIte, Nat.reduceAdd, Nat.reduceMul, Nat.reduceSub, q, r_let ht7 qT, hl, bI_ite, cond_true, y2]
      · rw [y12, w, if_pos (by decide)]
    · refine ⟨up f' 100 2 (-4), m', en, 4, 0, ?_, ?_, y3.up (by omega), y4, by simp (disch := omega) only [ltE, bnE, bn2E, gdE, nc, nI_add, n_mul, n_sub, ib_nI, up_hit, up_miss, n_le, n_lt, n_eq, n_eq0, n_lt0, n_0le, n_0lt, n_le0, zb_0, zb_1, if_pos, if_neg, ↓reduceIte, Nat.reduceAdd, Nat.reduceMul, Nat.reduceSub, y5], y6, by simp (disch := omega) only [ltE, bnE, bn2E, gdE, nc, nI_add, n_mul, n_sub, ib_nI, up_hit, up_miss, n_le, n_lt, n_eq, n_eq0, n_lt0, n_0le, n_0lt, n_le0, zb_0, zb_1, if_pos, if_neg, ↓reduceIte, Nat.reduceAdd, Nat.reduceMul, Nat.reduceSub, y7], y8, by omega, y10, Or.inr (Or.inr (Or.inr (Or.inr ⟨rfl, by simp (disch := omega) only [ltE, bnE, bn2E, gdE, nc, nI_add, n_mul, n_sub, ib_nI, up_hit, up_miss, n_le, n_lt, n_eq, n_eq0, n_lt0, n_0le, n_0lt, n_le0, zb_0, zb_1, if_pos, if_neg, ↓reduceIte, Nat.reduceAdd, Nat.reduceMul, Nat.reduceSub], ?_, y9⟩)))⟩
      · simp (disch := omega) only [ltE, bnE, bn2E, gdE, nc, nI_add, n_mul, n_sub, ib_nI, up_hit, up_miss, n_le, n_lt, n_eq, n_eq0, n_lt0, n_0le, n_0lt, n_le0, zb_0, zb_1, if_pos, if_neg, ↓reduceIte, Nat.reduceAdd, Nat.reduceMul, Nat.reduceSub, qT, c_let hs6 qT, hl, bI_ite, cond_true, y1, c_173, w, y11, true_or, and_true]
      · rw [w] at y2
        simp (disch := omega) only [ltE, bnE, bn2E, gdE, nc, nI_add, n_mul, n_sub, ib_nI, up_hit, up_miss, n_le, n_lt, n_eq, n_eq0, n_lt0, n_0le, n_0lt, n_le0, zb_0, zb_1, if_pos, if_neg, ↓reduceIte, Nat.reduceAdd, Nat.reduceMul, Nat.reduceSub, q, r_let ht7 qT, hl, bI_ite, cond_true, y2]
      · rw [y12, w, if_neg (by decide)]
/-- the next word in both -/
theorem lex {en0 : Nat} (hn : 2000 ≤ n) (hs : CB B T F s) (ht : RB B T M t) (c4 : s 100 4 = nI en0) (r6 : t 107 6 = nI en0) (he : en0 ≤ T)
    (hb : ((s 100 2 = -2 ∨ s 100 2 = -3) ∧ t 107 10 = nI en0) ∨ (s 100 2 ≠ -2 ∧ s 100 2 ≠ -3 ∧ (t 107 10 = -1 ∨ ∃ e, e < en0 ∧ t 107 10 = nI e))) :
    ∃ f' m' st en k v, fX9_openNext n 100 s = some f' ∧ fX12_go n t = some m' ∧ en0 ≤ st ∧ LX B T F M f' m' st en k v := by
  have hT9 := hs.1
  obtain ⟨bw, C, h1, h2⟩ : ∃ bw : Bool, fX9_openNext n 100 s = fX9_openNext_23 n 100 (bI bw) s ∧ (bw = true → t 107 10 = nI en0) ∧ (bw = false → t 107 10 = -1 ∨ ∃ e, e < en0 ∧ t 107 10 = nI e) := by
    unfold fX9_openNext fX9_openNext_18
    rcases hb with ⟨q | q, h⟩ | ⟨q1, q2, h⟩
    · exact ⟨true, by rw [if_pos q]; rfl, fun _ => h, fun e => absurd e (by decide)⟩
    · refine ⟨true, ?_, fun _ => h, fun e => absurd e (by decide)⟩
      split <;> rfl
    · exact ⟨false, by rw [if_neg q1, if_neg q2]; rfl, fun e => absurd e (by decide), fun _ => h⟩
  rw [C]
  unfold fX9_openNext_23 fX12_go
  simp (disch := omega) only [ltE, bnE, bn2E, gdE, nc, nI_add, n_mul, n_sub, ib_nI, up_hit, up_miss, n_le, n_lt, n_eq, n_eq0, n_lt0, n_0le, n_0lt, n_le0, zb_0, zb_1, if_pos, if_neg, ↓reduceIte, Nat.reduceAdd, Nat.reduceMul, Nat.reduceSub, c4]
  have L := loopSim (fun q i (s : Mm) => fX9_openNext_32L n 100 q (bI bw) s) (fun q i (t : Mm) => fX12_go_0L n q t) T
    (fun i s t' => en0 ≤ i ∧ CB B T F s ∧ RB B T M t' ∧ s 100 3 = nI i ∧ s 100 4 = nI en0 ∧ t' 107 6 = nI i ∧ t' 107 10 = t 107 10)
    (fun f' m' => ∃ st en k v, en0 ≤ st ∧ LX B T F M f' m' st en k v) ?_ ?_ n en0 (up s 100 3 (nI en0)) t he (by omega) ⟨Nat.le_refl _, hs.up (by omega), ht, up_hit, by simp (disch := omega) only [ltE, bnE, bn2E, gdE, nc, nI_add, n_mul, n_sub, ib_nI, up_hit, up_miss, n_le, n_lt, n_eq, n_eq0, n_lt0, n_0le, n_0lt, n_le0, zb_0, zb_1, if_pos, if_neg, ↓reduceIte, Nat.reduceAdd, Nat.reduceMul, Nat.reduceSub, c4], r6, rfl⟩
  · obtain ⟨f', m', e1, e2, st, en, k, v, h⟩ := L
    exact ⟨f', m', st, en, k, v, e1, e2, h⟩
  · rintro q s' t' ⟨w1, w2, w3, w4, w5, w6, w7⟩
    obtain ⟨f', m', en, k, v, y1, y2, y3⟩ := lexTail (n := n) (bw := bw) hn w2 w3 w4 w5 w6 w1 (Nat.le_refl _) (by rw [w7]; exact h1) (by rw [w7]; exact h2)
    refine ⟨f', m', ?_, ?_, T, en, k, v, w1, y3⟩
    · show fX9_openNext_32 n 100 (fX9_openNext_32L n 100 q) (bI bw) s' = _
      unfold fX9_openNext_32
      simp (disch := omega) only [ltE, bnE, bn2E, gdE, nc, nI_add, n_mul, n_sub, ib_nI, up_hit, up_miss, n_le, n_lt, n_eq, n_eq0, n_lt0, n_0le, n_0lt, n_le0, zb_0, zb_1, if_pos, if_neg, ↓reduceIte, Nat.reduceAdd, Nat.reduceMul, Nat.reduceSub, w2.2.1, w4, Nat.le_refl, y1]
    · show fX12_go_0 n (fX12_go_0L n q) t' = _
      unfold fX12_go_0
      simp (disch := omega) only [ltE, bnE, bn2E, gdE, nc, nI_add, n_mul, n_sub, ib_nI, up_hit, up_miss, n_le, n_lt, n_eq, n_eq0, n_lt0, n_0le, n_0lt, n_le0, zb_0, zb_1, if_pos, if_neg, ↓reduceIte, Nat.reduceAdd, Nat.reduceMul, Nat.reduceSub, w3.2.1, w6, Nat.le_refl, y2]
  · rintro q i s' t' hi ⟨w1, w2, w3, w4, w5, w6, w7⟩
    have cF : fX9_openNext_32L n 100 (q + 1) (bI bw) s' = fX9_openNext_32 n 100 (fX9_openNext_32L n 100 q) (bI bw) s' := rfl
    have cK : fX12_go_0L n (q + 1) t' = fX12_go_0 n (fX12_go_0L n q) t' := rfl
    simp only [cF, cK]
    unfold fX9_openNext_32 fX12_go_0
    obtain ⟨b1, b2⟩ := w2.2.2.1 i hi
    have b3 := (w3.2.2.1 i hi).2
    have nT : ¬ T ≤ i := by omega
    by_cases q32 : B i = 32
    · refine Or.inr ⟨up s' 100 3 (nI (i + 1)), up t' 107 6 (nI (i + 1)), ?_, ?_, by omega, w2.up (by omega), w3.up (by omega) (by omega), by simp (disch := omega) only [ltE, bnE, bn2E, gdE, nc, nI_add, n_mul, n_sub, ib_nI, up_hit, up_miss, n_le, n_lt, n_eq, n_eq0, n_lt0, n_0le, n_0lt, n_le0, zb_0, zb_1, if_pos, if_neg, ↓reduceIte, Nat.reduceAdd, Nat.reduceMul, Nat.reduceSub], by simp (disch := omega) only [ltE, bnE, bn2E, gdE, nc, nI_add, n_mul, n_sub, ib_nI, up_hit, up_miss, n_le, n_lt, n_eq, n_eq0, n_lt0, n_0le, n_0lt, n_le0, zb_0, zb_1, if_pos, if_neg, ↓reduceIte, Nat.reduceAdd, Nat.reduceMul, Nat.reduceSub, w5], by simp (disch := omega) only [ltE, bnE, bn2E, gdE, nc, nI_add, n_mul, n_sub, ib_nI, up_hit, up_miss, n_le, n_lt, n_eq, n_eq0, n_lt0, n_0le, n_0lt, n_le0, zb_0, zb_1, if_pos, if_neg, ↓reduceIte, Nat.reduceAdd, Nat.reduceMul, Nat.reduceSub], by simp (disch := omega) only [ltE, bnE, bn2E, gdE, nc, nI_add, n_mul, n_sub, ib_nI, up_hit, up_miss, n_le, n_lt, n_eq, n_eq0, n_lt0, n_0le, n_0lt, n_le0, zb_0, zb_1, if_pos, if_neg, ↓reduceIte, Nat.reduceAdd, Nat.reduceMul, Nat.reduceSub, w7]⟩
      · simp (disch := omega) only [ltE, bnE, bn2E, gdE, nc, nI_add, n_mul, n_sub, ib_nI, up_hit, up_miss, n_le, n_lt, n_eq, n_eq0, n_lt0, n_0le, n_0lt, n_le0, zb_0, zb_1, if_pos, if_neg, ↓reduceIte, Nat.reduceAdd, Nat.reduceMul, Nat.reduceSub, w2.2.1, w4, nT, b2, q32]
      · simp (disch := omega) only [ltE, bnE, bn2E, gdE, nc, nI_add, n_mul, n_sub, ib_nI, up_hit, up_miss, n_le, n_lt, n_eq, n_eq0, n_lt0, n_0le, n_0lt, n_le0, zb_0, zb_1, if_pos, if_neg, ↓reduceIte, Nat.reduceAdd, Nat.reduceMul, Nat.reduceSub, w3.2.1, w6, nT, b3, q32]
    · obtain ⟨f', m', en, k, v, y1, y2, y3⟩ := lexTail (n := n) (bw := bw) hn w2 w3 w4 w5 w6 w1 (by omega) (by rw [w7]; exact h1) (by rw [w7]; exact h2)
      refine Or.inl ⟨f', m', ?_, ?_, i, en, k, v, w1, y3⟩
      · simp (disch := omega) only [ltE, bnE, bn2E, gdE, nc, nI_add, n_mul, n_sub, ib_nI, up_hit, up_miss, n_le, n_lt, n_eq, n_eq0, n_lt0, n_0le, n_0lt, n_le0, zb_0, zb_1, if_pos, if_neg, ↓reduceIte, Nat.reduceAdd, Nat.reduceMul, Nat.reduceSub, w2.2.1, w4, nT, b2, q32, y1]
      · simp (disch := omega) only [ltE, bnE, bn2E, gdE, nc, nI_add, n_mul, n_sub, ib_nI, up_hit, up_miss, n_le, n_lt, n_eq, n_eq0, n_lt0, n_0le, n_0lt, n_le0, zb_0, zb_1, if_pos, if_neg, ↓reduceIte, Nat.reduceAdd, Nat.reduceMul, Nat.reduceSub, w3.2.1, w6, nT, b3, q32, y2]
end LXB
