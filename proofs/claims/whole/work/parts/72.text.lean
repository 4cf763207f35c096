/-! texts, read in both -/
section TX
variable {n N : Nat} {f m : Mm}
theorem m1_0le : ((0 : Int32) ≤ -1) = False := m1_le
theorem text_fail {m' : Mm} {s : Nat} (h : m' 107 7 = nI s) : fX12_text_32 n m' = some (-100 - nI s, up m' 107 5 (nI 0)) := by
  unfold fX12_text_32 fX12_text_33
  simp (disch := omega) only [ltE, bnE, bn2E, gdE, nc, nI_add, n_mul, n_sub, ib_nI, up_hit, up_miss, n_le, n_lt, n_eq, n_eq0, n_lt0, n_0le, n_0lt, n_le0, zb_0, zb_1, if_pos, if_neg, ↓reduceIte, Nat.reduceAdd, Nat.reduceMul, Nat.reduceSub, h]
theorem read_sim (hn : 2000 ≤ n) (hI : Inv N f m) : ∃ f' m', ((∃ s, s ≤ 96 ∧ fX3_readLaw n 99 f = some (nI 0, f') ∧ f' 100 3 = nI s ∧ fX12_text n m = some (-100 - nI s, up m' 107 5 (nI 0))) ∨
    (∃ W a key, fX3_readLaw n 99 f = some (nI 1, f') ∧ fX12_text n m = fX12_text_33 n (nI 1) m' ∧ key ≤ 2 ∧ VALs key W ∧ hL W = some 1 ∧ na W = a ∧ W.length ≤ 92 ∧ f' 99 2 = nI W.length ∧ f' 99 3 = nI a ∧ f' 99 4 = nI key ∧ RR (f' 102) (W.map (trT key)) ∧ m' 107 15 = nI W.length ∧ m' 107 16 = nI a ∧ m' 107 11 = nI key ∧ RR (m' 114) W)) ∧
    (∀ k, k < 99 ∨ 102 < k → f' k = f k) ∧ (∀ k, k ≠ 107 → k ≠ 114 → k ≠ 115 → k ≠ 116 → m' k = m k) ∧ ∀ j, j < 6 ∨ 18 < j → m' 107 j = m 107 j := by
  obtain ⟨T, T1, T2, T3, T4⟩ := hI.2.2.2.2.2.2.1
  obtain ⟨C1, C2⟩ := hI.2.2.2.2.2.2.2.1
  have hB : ∀ i, i < T → (m 111 i).toNatClampNeg < 256 ∧ f 101 i = nI (m 111 i).toNatClampNeg ∧ m 111 i = nI (m 111 i).toNatClampNeg := by
    intro i hi
    obtain ⟨b, b1, b2, b3⟩ := T4 i hi
    rw [b3, nc (by omega)]
    exact ⟨b1, b2, rfl⟩
  generalize hBe : (fun i => (m 111 i).toNatClampNeg) = B
  have hB : ∀ i, i < T → B i < 256 ∧ f 101 i = nI (B i) ∧ m 111 i = nI (B i) := by rw [← hBe]; exact hB
  generalize hs : up (up (up (up f 99 2 (nI 0)) 99 3 (nI 0)) 100 2 (-1)) 100 4 (nI 0) = s
  generalize ht : up (up m 107 6 (nI 0)) 107 10 (-1) = t
  have fs : ∀ k, k < 99 ∨ 100 < k → s k = f k := fun k hk => by rw [← hs]; (simp (disch := omega) only [up_rn])
  have ft : ∀ k, k ≠ 107 → t k = m k := fun k hk => by rw [← ht]; (simp (disch := omega) only [up_rn])
  have ft7 : ∀ j, j < 6 ∨ 10 < j → t 107 j = m 107 j := fun j hj => by rw [← ht]; (simp (disch := omega) only [up_miss])
  have hCB : CB B T s s := ⟨T1, by rw [← hs]; simp (disch := omega) only [ltE, bnE, bn2E, gdE, nc, nI_add, n_mul, n_sub, ib_nI, up_hit, up_miss, n_le, n_lt, n_eq, n_eq0, n_lt0, n_0le, n_0lt, n_le0, zb_0, zb_1, if_pos, if_neg, ↓reduceIte, Nat.reduceAdd, Nat.reduceMul, Nat.reduceSub, T2], fun i hi => by rw [fs 101 (by omega)]; exact ⟨(hB i hi).1, (hB i hi).2.1⟩, fun _ _ => rfl⟩
  have hRB : RB B T t t := ⟨T1, by rw [ft7 5 (by omega)]; exact T3, fun i hi => by rw [ft 111 (by omega)]; exact ⟨(hB i hi).1, (hB i hi).2.2⟩, fun _ _ => rfl, fun _ _ => rfl⟩
  obtain ⟨f6, m6, st, en, k, v, e1, e2, e3, hX⟩ := lex (n := n) (en0 := 0) hn hCB hRB (by rw [← hs]; simp (disch := omega) only [ltE, bnE, bn2E, gdE, nc, nI_add, n_mul, n_sub, ib_nI, up_hit, up_miss, n_le, n_lt, n_eq, n_eq0, n_lt0, n_0le, n_0lt, n_le0, zb_0, zb_1, if_pos, if_neg, ↓reduceIte, Nat.reduceAdd, Nat.reduceMul, Nat.reduceSub]) (by rw [← ht]; simp (disch := omega) only [ltE, bnE, bn2E, gdE, nc, nI_add, n_mul, n_sub, ib_nI, up_hit, up_miss, n_le, n_lt, n_eq, n_eq0, n_lt0, n_0le, n_0lt, n_le0, zb_0, zb_1, if_pos, if_neg, ↓reduceIte, Nat.reduceAdd, Nat.reduceMul, Nat.reduceSub]) (by omega) (Or.inr ⟨by rw [← hs]; simp (disch := omega) only [up_hit, up_miss]; decide, by rw [← hs]; simp (disch := omega) only [up_hit, up_miss]; decide, Or.inl (by rw [← ht]; simp (disch := omega) only [ltE, bnE, bn2E, gdE, nc, nI_add, n_mul, n_sub, ib_nI, up_hit, up_miss, n_le, n_lt, n_eq, n_eq0, n_lt0, n_0le, n_0lt, n_le0, zb_0, zb_1, if_pos, if_neg, ↓reduceIte, Nat.reduceAdd, Nat.reduceMul, Nat.reduceSub])⟩)
  have hXc := hX
  obtain ⟨x1, x2, x3, x4, x5, x6, x7, x8, x9⟩ := hXc
  have f6k : ∀ k, k ≠ 100 → f6 k = s k := x1.2.2.2
  have m6k : ∀ k, k ≠ 107 → m6 k = t k := x2.2.2.2.1
  have m67 : ∀ j, j < 6 ∨ 10 < j → m6 107 j = t 107 j := x2.2.2.2.2
  have cR : fX3_readLaw n 99 f = (bn (fX3_openKey n 99 f6) fun r8 => lt (up f6 99 4 r8) fun f9 => if 0 ≤ f9 99 4 then (bn (fX9_openNext n 100 f9) fun f13 => bn2 (fX3_readLevelC n 99 (nI 0) (nI 0) (nI 0) f13) fun r16 f15 => if r16 = 0 then some (nI 0, f15) else if f15 100 2 = -1 then some (nI 1, f15) else some (nI 0, f15)) else some (nI 0, f9)) := by
    unfold fX3_readLaw fX9_openFirst
    simp only [ltE, bnE, Nat.reduceAdd, hs, e1]
  have cT : fX12_text n m = (bn2 (fX12_takesKey n m6) fun r9 f8 => if r9 = 0 then fX12_text_32 n f8 else bn2 (fX12_takesE n f8) fun r32 f31 => if r32 = 0 then fX12_text_32 n f31 else fX12_text_33 n (nI 1) f31) := by
    unfold fX12_text
    simp only [ltE, ht, e2, bnE]
  rcases key_sim (n := n) hn hX (fun i hi => by rw [m6k 112 (by omega), ft 112 (by omega), C1 i hi]; exact m0_k.1 i hi) (fun i hi => by rw [m6k 113 (by omega), ft 113 (by omega), C2 i hi]; exact m0_k.2 i hi) with ⟨w, w1, w2, w3, w4, w5⟩ | ⟨w1, w2⟩
  · rw [cR, cT, w2, w3]
    have hbh : f6 100 2 = -2 ∧ m6 107 10 = nI en := by
      rcases x9 with ⟨z, _⟩ | ⟨_, z1, _, z2, _⟩ | ⟨z, _⟩ | ⟨z, _⟩ | ⟨z, _⟩
      · omega
      · exact ⟨z1, z2⟩
      · omega
      · omega
      · omega
    generalize hf9 : up f6 99 4 (nI w) = f9
    generalize hm9 : up m6 107 11 (nI w) = m9
    have hCB9 : CB B T f9 f9 := ⟨T1, by rw [← hf9]; simp (disch := omega) only [up_rn]; exact x1.2.1, fun i hi => by rw [← hf9]; simp (disch := omega) only [up_rn]; exact x1.2.2.1 i hi, fun _ _ => rfl⟩
    have hRB9 : RB B T m9 m9 := ⟨T1, by rw [← hm9]; simp (disch := omega) only [up_miss]; exact x2.2.1, fun i hi => by rw [← hm9]; simp (disch := omega) only [up_rn]; exact x2.2.2.1 i hi, fun _ _ => rfl, fun _ _ => rfl⟩
    obtain ⟨f13, m13, st2, en2, k2, v2, g1, g2, g3, hY⟩ := lex (n := n) (en0 := en) hn hCB9 hRB9 (by rw [← hf9]; simp (disch := omega) only [ltE, bnE, bn2E, gdE, nc, nI_add, n_mul, n_sub, ib_nI, up_hit, up_miss, n_le, n_lt, n_eq, n_eq0, n_lt0, n_0le, n_0lt, n_le0, zb_0, zb_1, if_pos, if_neg, ↓reduceIte, Nat.reduceAdd, Nat.reduceMul, Nat.reduceSub, x5]) (by rw [← hm9]; simp (disch := omega) only [ltE, bnE, bn2E, gdE, nc, nI_add, n_mul, n_sub, ib_nI, up_hit, up_miss, n_le, n_lt, n_eq, n_eq0, n_lt0, n_0le, n_0lt, n_le0, zb_0, zb_1, if_pos, if_neg, ↓reduceIte, Nat.reduceAdd, Nat.reduceMul, Nat.reduceSub, x6]) x8 (Or.inl ⟨Or.inl (by rw [← hf9]; simp (disch := omega) only [up_rn]; exact hbh.1), by rw [← hm9]; simp (disch := omega) only [up_miss]; exact hbh.2⟩)
    obtain ⟨y1, y2, y3⟩ := hY
    have f13k : ∀ k, k ≠ 100 → f13 k = f9 k := y1.2.2.2
    have m13k : ∀ k, k ≠ 107 → m13 k = m9 k := y2.2.2.2.1
    have m137 : ∀ j, j < 6 ∨ 10 < j → m13 107 j = m9 107 j := y2.2.2.2.2
    generalize hm17 : up (up (up (up m13 107 15 (nI 0)) 107 16 (nI 0)) 107 18 (nI 0)) 116 0 (nI 0) = m17
    have hZ13 : LZ B T f13 m13 st2 en2 k2 v2 := ⟨⟨y1.1, y1.2.1, y1.2.2.1, fun _ _ => rfl⟩, ⟨y2.1, y2.2.1, y2.2.2.1, fun _ _ => rfl, fun _ _ => rfl⟩, y3⟩
    have hZ17 : LZ B T f13 m17 st2 en2 k2 v2 := hZ13.cg rfl rfl (by rw [← hm17]; (simp (disch := omega) only [up_rn])) (fun i i1 i2 => by rw [← hm17]; (simp (disch := omega) only [up_miss]))
    have hST : ST B T w f13 m17 (([] : List Int32).map (trT w)) [] [] 0 st2 en2 k2 v2 := by
      refine ⟨hZ17, ?_, ?_, ?_, trivial, ?_, trivial, ?_, trivial, ?_, ?_, ?_⟩
      · rw [f13k 99 (by omega), ← hf9]; simp (disch := omega) only [ltE, bnE, bn2E, gdE, nc, nI_add, n_mul, n_sub, ib_nI, up_hit, up_miss, n_le, n_lt, n_eq, n_eq0, n_lt0, n_0le, n_0lt, n_le0, zb_0, zb_1, if_pos, if_neg, ↓reduceIte, Nat.reduceAdd, Nat.reduceMul, Nat.reduceSub]
      · rw [← hm17]; simp (disch := omega) only [up_miss]; rw [m137 11 (by omega), ← hm9]; simp (disch := omega) only [ltE, bnE, bn2E, gdE, nc, nI_add, n_mul, n_sub, ib_nI, up_hit, up_miss, n_le, n_lt, n_eq, n_eq0, n_lt0, n_0le, n_0lt, n_le0, zb_0, zb_1, if_pos, if_neg, ↓reduceIte, Nat.reduceAdd, Nat.reduceMul, Nat.reduceSub]
      · rw [f13k 99 (by omega), ← hf9]; simp (disch := omega) only [up_miss]; rw [f6k 99 (by omega), ← hs]; simp (disch := omega) only [ltE, bnE, bn2E, gdE, nc, nI_add, n_mul, n_sub, ib_nI, up_hit, up_miss, n_le, n_lt, n_eq, n_eq0, n_lt0, n_0le, n_0lt, n_le0, zb_0, zb_1, if_pos, if_neg, ↓reduceIte, Nat.reduceAdd, Nat.reduceMul, Nat.reduceSub, List.map_nil, List.length_nil]
      · rw [← hm17]; simp (disch := omega) only [ltE, bnE, bn2E, gdE, nc, nI_add, n_mul, n_sub, ib_nI, up_hit, up_miss, n_le, n_lt, n_eq, n_eq0, n_lt0, n_0le, n_0lt, n_le0, zb_0, zb_1, if_pos, if_neg, ↓reduceIte, Nat.reduceAdd, Nat.reduceMul, Nat.reduceSub, List.length_nil]
      · rw [← hm17]; simp (disch := omega) only [ltE, bnE, bn2E, gdE, nc, nI_add, n_mul, n_sub, ib_nI, up_hit, up_miss, n_le, n_lt, n_eq, n_eq0, n_lt0, n_0le, n_0lt, n_le0, zb_0, zb_1, if_pos, if_neg, ↓reduceIte, Nat.reduceAdd, Nat.reduceMul, Nat.reduceSub, List.length_nil]
      · rw [f13k 99 (by omega), ← hf9]; simp (disch := omega) only [up_miss]; rw [f6k 99 (by omega), ← hs]; simp (disch := omega) only [ltE, bnE, bn2E, gdE, nc, nI_add, n_mul, n_sub, ib_nI, up_hit, up_miss, n_le, n_lt, n_eq, n_eq0, n_lt0, n_0le, n_0lt, n_le0, zb_0, zb_1, if_pos, if_neg, ↓reduceIte, Nat.reduceAdd, Nat.reduceMul, Nat.reduceSub]
      · rw [← hm17]; simp (disch := omega) only [ltE, bnE, bn2E, gdE, nc, nI_add, n_mul, n_sub, ib_nI, up_hit, up_miss, n_le, n_lt, n_eq, n_eq0, n_lt0, n_0le, n_0lt, n_le0, zb_0, zb_1, if_pos, if_neg, ↓reduceIte, Nat.reduceAdd, Nat.reduceMul, Nat.reduceSub]
      · show 0 + 0 + 4 ≤ st2; omega
    have hst2 := hST.st
    have frC : ∀ k, k < 99 ∨ 100 < k → f13 k = f k := fun k hk => by rw [f13k k (by omega), ← hf9, up_rn (by omega), f6k k (by omega), fs k hk]
    have frR : ∀ k, k ≠ 107 → k ≠ 116 → m17 k = m k := fun k h1 h2 => by
      rw [← hm17]; simp (disch := omega) only [up_rn]
      rw [m13k k h1, ← hm9, up_rn h1, m6k k h1, ft k h1]
    have frR7 : ∀ j, j < 6 ∨ 18 < j → m17 107 j = m 107 j := fun j hj => by
      rw [← hm17]; simp (disch := omega) only [up_miss]
      rw [m137 j (by omega), ← hm9, up_miss (by omega), m67 j (by omega), ft7 j (by omega)]
    have t0 : m17 116 0 = nI 0 := by rw [← hm17]; simp (disch := omega) only [ltE, bnE, bn2E, gdE, nc, nI_add, n_mul, n_sub, ib_nI, up_hit, up_miss, n_le, n_lt, n_eq, n_eq0, n_lt0, n_0le, n_0lt, n_le0, zb_0, zb_1, if_pos, if_neg, ↓reduceIte, Nat.reduceAdd, Nat.reduceMul, Nat.reduceSub]
    have eE : fX12_takesE n m13 = Kk n n 0 0 1 m17 := by
      unfold fX12_takesE
      simp (disch := omega) only [ltE, bnE, bn2E, gdE, nc, nI_add, n_mul, n_sub, ib_nI, up_hit, up_miss, n_le, n_lt, n_eq, n_eq0, n_lt0, n_0le, n_0lt, n_le0, zb_0, zb_1, if_pos, if_neg, ↓reduceIte, Nat.reduceAdd, Nat.reduceMul, Nat.reduceSub, nar01.1, hm17]
      rfl
    have LV := (readers (n := n) (T := T) (B := B) (key := w) hn (by omega) 120).1 0 0 0 (by omega) (by omega) (by omega) (by decide) n f13 m17 [] [] 0 st2 en2 k2 v2 0 hST (Or.inl rfl) rfl (fun c hc => by simp at hc) rfl rfl (Or.inl t0) (fun _ => t0) (by omega)
    have nz1 : ¬ (nI 1 : Int32) = 0 := by decide
    have cR2 : (bn (some (nI w)) fun r8 => lt (up f6 99 4 r8) fun f9 => if 0 ≤ f9 99 4 then (bn (fX9_openNext n 100 f9) fun f13 => bn2 (fX3_readLevelC n 99 (nI 0) (nI 0) (nI 0) f13) fun r16 f15 => if r16 = 0 then some (nI 0, f15) else if f15 100 2 = -1 then some (nI 1, f15) else some (nI 0, f15)) else some (nI 0, f9)) = (bn2 ((rd n 99 120).1 (nI 0) (nI 0) (nI 0) f13) fun r16 f15 => if r16 = 0 then some (nI 0, f15) else if f15 100 2 = -1 then some (nI 1, f15) else some (nI 0, f15)) := by
      have h94 : f9 99 4 = nI w := by rw [← hf9, up_hit]
      simp (disch := omega) only [ltE, bnE, bn2E, gdE, nc, nI_add, n_mul, n_sub, ib_nI, up_hit, up_miss, n_le, n_lt, n_eq, n_eq0, n_lt0, n_0le, n_0lt, n_le0, zb_0, zb_1, if_pos, if_neg, ↓reduceIte, Nat.reduceAdd, Nat.reduceMul, Nat.reduceSub, hf9, h94, g1]
      rfl
    rw [cR2]
    have cT2 : (bn2 (bn (fX12_go n m9) fun f13 => some (nI 1, f13)) fun r9 f8 => if r9 = 0 then fX12_text_32 n f8 else bn2 (fX12_takesE n f8) fun r32 f31 => if r32 = 0 then fX12_text_32 n f31 else fX12_text_33 n (nI 1) f31) = (bn2 (Kk n n 0 0 1 m17) fun r32 f31 => if r32 = 0 then fX12_text_32 n f31 else fX12_text_33 n (nI 1) f31) := by
      rw [g2, bnE, bn2E, if_neg nz1, eE]
    rw [cT2]
    rcases LV with ⟨f', m', s', a1, a2, a3, a4, a5, a6⟩ | ⟨f', m', q', W, rc, pend, a', st', en', kk', v', a1, a2, a3, a4, a5, a6, a7, a8, a9, a10, a11, a12, a13, a14, a15⟩
    · refine ⟨f', m', Or.inl ⟨s', a3, ?_, a4, ?_⟩, fun k hk => by rw [a6.1 k (by omega) (by omega) (by omega)]; exact frC k (by omega), fun k k1 k2 k3 k4 => by rw [a6.2.1 k k1 k2 k3 k4]; exact frR k k1 k4, fun j hj => by rw [a6.2.2 j hj]; exact frR7 j hj⟩
      · rw [a1]; rfl
      · rw [a2, bn2E, if_pos (show (nI 0 : Int32) = 0 from rfl), text_fail a5]
    · have hs' := a3.st
      obtain ⟨q5, rfl⟩ : ∃ p, q' = p + 1 := ⟨q' - 1, by omega⟩
      have post : fX3_levelOf n (f' 100 2) = some (-1) ∨ ∃ l, l < 5 ∧ fX3_levelOf n (f' 100 2) = some (nI l) ∧ (l = 2 ∧ m' 116 0 = nI 1) := by
        rcases a11 with x | ⟨l, l1, l2, l3 | l3⟩
        · exact Or.inl x
        · omega
        · exact Or.inr ⟨l, l1, l2, l3⟩
      have frC' : ∀ k, k < 99 ∨ 102 < k → f' k = f k := fun k hk => by rw [a15.1 k (by omega) (by omega) (by omega)]; exact frC k (by omega)
      rcases r_stop (q := q5) (k := 0) hn a3 (by omega) (Or.inl rfl) a8 post (fun e => by omega) with ⟨k0, m'', o1, o2, o3, o4, o5⟩ | ⟨k0, o1⟩
      · rw [← a4] at o2 o3
        have hm1 : f' 100 2 = -1 := by
          obtain ⟨⟨_, _, _, _, _, _, _, _, c7⟩, _⟩ := a3
          rcases c7 with ⟨_, z, _⟩ | ⟨z, _⟩ | ⟨z, _⟩ | ⟨z, _⟩ | ⟨z, _⟩
          · exact z
          · omega
          · omega
          · omega
          · omega
        obtain ⟨t0', t1, t2, t3, t4, t5, t6, t7, t8, t9, t10, t11⟩ := a3
        rw [List.length_map] at t3
        have hWl : W.length ≤ 92 := by
          have : W.length = pend.length + rc.length := by rw [a4]; simp
          rw [List.append_nil] at t11
          omega
        refine ⟨f', m'', Or.inr ⟨W, a', w, ?_, ?_, by omega, a5, a6, a7, hWl, t3, t9, t1, t4, o2, by rw [o5 16 (by omega) (by omega)]; exact t10, by rw [o5 11 (by omega) (by omega)]; exact t2, o3⟩, frC', fun k k1 k2 k3 k4 => by rw [o4 k k1 k2, a15.2.1 k k1 k2 k3 k4]; exact frR k k1 k4, fun j hj => by rw [o5 j (by omega) (by omega), a15.2.2 j hj]; exact frR7 j hj⟩
        · rw [a1, bn2E, if_neg nz1, if_pos hm1]
        · rw [a2, o1, if_pos rfl, bn2E, if_neg nz1]
      · have hm1 : ¬ f' 100 2 = -1 := by
          obtain ⟨⟨_, _, _, _, _, _, _, _, c7⟩, _⟩ := a3
          rcases c7 with ⟨z, _⟩ | ⟨_, z, _⟩ | ⟨_, z, _⟩ | ⟨_, z, _, _, z2, _⟩ | ⟨_, z, _⟩
          · exact absurd z k0
          · rw [z]; decide
          · rw [z]; decide
          · rw [z]; exact fun e => (nI_m2 (show v' < 1000 by omega)).1.mp e
          · rw [z]; decide
        refine ⟨f', m', Or.inl ⟨st', by omega, ?_, hs'.2.2.1, ?_⟩, frC', fun k k1 k2 k3 k4 => by rw [a15.2.1 k k1 k2 k3 k4]; exact frR k k1 k4, fun j hj => by rw [a15.2.2 j hj]; exact frR7 j hj⟩
        · rw [a1, bn2E, if_neg nz1, if_neg hm1]
        · rw [a2, o1, bn2E, if_pos (show (nI 0 : Int32) = 0 from rfl), text_fail hs'.2.2.2.1]
  · refine ⟨up f6 99 4 (-1), m6, Or.inl ⟨st, by omega, ?_, by simp (disch := omega) only [ltE, bnE, bn2E, gdE, nc, nI_add, n_mul, n_sub, ib_nI, up_hit, up_miss, n_le, n_lt, n_eq, n_eq0, n_lt0, n_0le, n_0lt, n_le0, zb_0, zb_1, if_pos, if_neg, ↓reduceIte, Nat.reduceAdd, Nat.reduceMul, Nat.reduceSub, x3], ?_⟩, fun k hk => by rw [up_rn (by omega), f6k k (by omega), fs k (by omega)], fun k k1 _ _ _ => by rw [m6k k k1, ft k k1], fun j hj => by rw [m67 j (by omega), ft7 j (by omega)]⟩
    · rw [cR, w1]
      simp (disch := omega) only [ltE, bnE, bn2E, gdE, nc, nI_add, n_mul, n_sub, ib_nI, up_hit, up_miss, n_le, n_lt, n_eq, n_eq0, n_lt0, n_0le, n_0lt, n_le0, zb_0, zb_1, if_pos, if_neg, ↓reduceIte, Nat.reduceAdd, Nat.reduceMul, Nat.reduceSub, m1_0le]
    · rw [cT, w2, bn2E, if_pos (show (nI 0 : Int32) = 0 from rfl), text_fail x4]
end TX
