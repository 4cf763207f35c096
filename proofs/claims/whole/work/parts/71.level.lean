/-! rows of signs of a level -/
theorem stp.mono {n r r' : Nat} {base : List Int32} (h : stp n r base) (hr : r ≤ r') : stp n r' base := by
  rcases h with e | ⟨c, l, e, hc⟩
  · exact Or.inl e
  · refine Or.inr ⟨c, l, e, ?_⟩
    rcases hc with q | ⟨x, x1, x2⟩
    · exact Or.inl q
    · exact Or.inr ⟨x, by omega, x2⟩
section LV
variable {n T key : Nat} {B : Nat → Nat}
theorem hgt_bin {h : Nat} {c : Int32} (h0 : ¬ 0 ≤ c) (h10 : c ≠ -10) : hgt c (h + 2) = some (h + 1) := by
  unfold hgt
  rw [if_neg h0, if_neg h10, if_pos (by omega)]; rfl
/-- the reference takes a sign -/
theorem r_sign {q b k L a st en v : Nat} {f m : Mm} {ps rc pend base : List Int32} {c : Int32} (hn : 2000 ≤ n) (hS : ST B T key f m ps rc (pend ++ base) a st en 3 v) (hb : b ≤ 8) (hst : stp n (L + 1) base) (hL : L < 5) (hp : ∀ c ∈ pend, c ≠ -11 ∧ ∃ x, L + 1 ≤ x ∧ x ≤ 6 ∧ fX12_rank n c = some (nI x))
    (ht : m 116 b = nI 0 ∨ m 116 b = nI 1) (ht2 : L = 2 → m 116 b = nI 0) (v41 : v ≠ 41) (g6 : fX12_signHere n m = some c) (g7 : c ≠ 0) (g8 : fX12_rank n c = some (nI (L + 1))) :
    ∃ f2 m2 st2 en2 k2 v2, fX9_openNext n 100 f = some f2 ∧ Kk n (q + 1) b k 0 m = Kk n q b k 1 m2 ∧ ST B T key f2 m2 ps (pend.reverse ++ rc) (c :: base) a st2 en2 k2 v2 ∧ st < st2 ∧ m2 116 b = (if L = 2 then nI 1 else if L < 2 then nI 0 else m 116 b) ∧ (∀ i, i ≠ b → m2 116 i = m 116 i) ∧ FRM f m f2 m2 := by
  have hs := hS.st
  have hk3 : m 107 8 = nI 3 ∧ m 107 9 = nI v ∧ v < 256 := by
    obtain ⟨⟨_, _, _, _, _, _, _, _, c7⟩, _⟩ := hS
    rcases c7 with ⟨x0, _⟩ | ⟨x0, _⟩ | ⟨x0, _⟩ | ⟨_, x1, x2, x3, x4, _⟩ | ⟨x0, _⟩
    · omega
    · omega
    · omega
    · exact ⟨x2, x3, x4⟩
    · omega
  obtain ⟨hZ, s1, s2, s3, s4, s5, s6, s7, s8, s9, s10, s11⟩ := hS
  generalize htb : (if L = 2 then nI 1 else if L < 2 then nI 0 else m 116 b : Int32) = tb
  have hla : (pend ++ base).length = pend.length + base.length := List.length_append
  rw [hla] at s11
  obtain ⟨m4, y1, y2, y3, y4, y5, y6, y7⟩ := settle_on (n := n) (m := up m 116 b tb) (r := L + 1) (base := base) (pend := pend) (rc := rc) hn (by omega) hst (by rw [hla]; omega) (by rw [up_rn (by omega)]; exact s7) (by rw [up_rn (by omega)]; exact s8) (by rw [up_rn (by omega)]; exact s5) (by rw [up_rn (by omega)]; exact s6) hp
  generalize hm5 : up (up m4 115 base.length c) 107 18 (nI (base.length + 1)) = m5
  have hZ5 : LZ B T f m5 st en 3 v := hZ.cg rfl rfl (by rw [← hm5]; simp (disch := omega) only [up_rn]; rw [y6 111 (by omega) (by omega)]; (simp (disch := omega) only [up_rn])) (fun i i1 i2 => by rw [← hm5]; simp (disch := omega) only [up_miss]; rw [y7 i (by omega) (by omega)]; (simp (disch := omega) only [up_miss]))
  obtain ⟨f6, m6, st6, en6, k6, v6, e1, e2, e3, e4, e5, e6, e7⟩ := hZ5.next (n := n) hn (by omega) (by omega)
  have hlr : (pend.reverse ++ rc).length = pend.length + rc.length := by simp
  refine ⟨f6, m6, st6, en6, k6, v6, e1, ?_, ⟨e4, by rw [e5 99 (by omega)]; exact s1, ?_, by rw [e5 99 (by omega)]; exact s3, by rw [e5 102 (by omega)]; exact s4, ?_, ?_, ?_, ?_, by rw [e5 99 (by omega)]; exact s9, ?_, ?_⟩, e3, ?_, fun i hi => ?_, ?_⟩
  · show fX12_takesE_28 n (fX12_takesE_28L n q) (nI b) (nI k) (nI 0) m = fX12_takesE_28L n q (nI b) (nI k) (nI 1) m6
    have fin305 : ∀ z : Int32, vp_nar .boolean z = tb → fX12_takesE_305 n (fX12_takesE_28L n q) (nI b) (nI k) c z (nI b) m = fX12_takesE_28L n q (nI b) (nI k) (nI 1) m6 := by
      intro z hz
      unfold fX12_takesE_305
      rw [hz]
      simp (disch := omega) only [ltE, bnE, bn2E, gdE, nc, nI_add, n_mul, n_sub, ib_nI, up_hit, up_miss, n_le, n_lt, n_eq, n_eq0, n_lt0, n_0le, n_0lt, n_le0, zb_0, zb_1, if_pos, if_neg, ↓reduceIte, Nat.reduceAdd, Nat.reduceMul, Nat.reduceSub, g8, y1, y2, hm5, e2]
    have fin268 : fX12_takesE_268 n (fX12_takesE_28L n q) (nI b) (nI k) c m = fX12_takesE_28L n q (nI b) (nI k) (nI 1) m6 := by
      unfold fX12_takesE_268 fX12_takesE_300 fX12_takesE_304
      rw [g8]
      by_cases q2 : L = 2
      · have := fin305 (nI 1) (by rw [← htb, if_pos q2]; exact nar01.2)
        simp (disch := omega) only [ltE, bnE, bn2E, gdE, nc, nI_add, n_mul, n_sub, ib_nI, up_hit, up_miss, n_le, n_lt, n_eq, n_eq0, n_lt0, n_0le, n_0lt, n_le0, zb_0, zb_1, if_pos, if_neg, ↓reduceIte, Nat.reduceAdd, Nat.reduceMul, Nat.reduceSub, q2, this]
      · by_cases q3 : L < 2
        · have := fin305 (nI 0) (by rw [← htb, if_neg q2, if_pos q3]; exact nar01.1)
          simp (disch := omega) only [ltE, bnE, bn2E, gdE, nc, nI_add, n_mul, n_sub, ib_nI, up_hit, up_miss, n_le, n_lt, n_eq, n_eq0, n_lt0, n_0le, n_0lt, n_le0, zb_0, zb_1, if_pos, if_neg, ↓reduceIte, Nat.reduceAdd, Nat.reduceMul, Nat.reduceSub, show ¬ L + 1 = 3 from by omega, show L + 1 ≤ 3 from by omega, this]
        · rcases ht with t | t
          · have := fin305 (nI 0) (by rw [← htb, if_neg q2, if_neg q3, t]; exact nar01.1)
            simp (disch := omega) only [ltE, bnE, bn2E, gdE, nc, nI_add, n_mul, n_sub, ib_nI, up_hit, up_miss, n_le, n_lt, n_eq, n_eq0, n_lt0, n_0le, n_0lt, n_le0, zb_0, zb_1, if_pos, if_neg, ↓reduceIte, Nat.reduceAdd, Nat.reduceMul, Nat.reduceSub, show ¬ L + 1 = 3 from by omega, show ¬ L + 1 ≤ 3 from by omega, t, this]
          · have := fin305 (nI 1) (by rw [← htb, if_neg q2, if_neg q3, t]; exact nar01.2)
            simp (disch := omega) only [ltE, bnE, bn2E, gdE, nc, nI_add, n_mul, n_sub, ib_nI, up_hit, up_miss, n_le, n_lt, n_eq, n_eq0, n_lt0, n_0le, n_0lt, n_le0, zb_0, zb_1, if_pos, if_neg, ↓reduceIte, Nat.reduceAdd, Nat.reduceMul, Nat.reduceSub, show ¬ L + 1 = 3 from by omega, show ¬ L + 1 ≤ 3 from by omega, t, this, Nat.one_ne_zero]
    have fin237 : fX12_takesE_237 n (fX12_takesE_28L n q) (nI b) (nI k) m = fX12_takesE_28L n q (nI b) (nI k) (nI 1) m6 := by
      unfold fX12_takesE_237
      rw [g6]
      by_cases q2 : L = 2
      · have t0 := ht2 q2
        simp (disch := omega) only [ltE, bnE, bn2E, gdE, nc, nI_add, n_mul, n_sub, ib_nI, up_hit, up_miss, n_le, n_lt, n_eq, n_eq0, n_lt0, n_0le, n_0lt, n_le0, zb_0, zb_1, if_pos, if_neg, ↓reduceIte, Nat.reduceAdd, Nat.reduceMul, Nat.reduceSub, g7, g8, q2, t0]
        exact fin268
      · simp (disch := omega) only [ltE, bnE, bn2E, gdE, nc, nI_add, n_mul, n_sub, ib_nI, up_hit, up_miss, n_le, n_lt, n_eq, n_eq0, n_lt0, n_0le, n_0lt, n_le0, zb_0, zb_1, if_pos, if_neg, ↓reduceIte, Nat.reduceAdd, Nat.reduceMul, Nat.reduceSub, g7, g8, show ¬ L + 1 = 3 from by omega]
        exact fin268
    unfold fX12_takesE_28 fX12_takesE_39
    simp (disch := omega) only [ltE, bnE, bn2E, gdE, nc, nI_add, n_mul, n_sub, ib_nI, up_hit, up_miss, n_le, n_lt, n_eq, n_eq0, n_lt0, n_0le, n_0lt, n_le0, zb_0, zb_1, if_pos, if_neg, ↓reduceIte, Nat.reduceAdd, Nat.reduceMul, Nat.reduceSub, hk3.1, hk3.2.1, v41, Nat.reduceEqDiff]
    exact fin237
  · rw [e7 11 (by omega), ← hm5]; simp (disch := omega) only [up_miss]; rw [y7 11 (by omega) (by omega)]; simp (disch := omega) only [ltE, bnE, bn2E, gdE, nc, nI_add, n_mul, n_sub, ib_nI, up_hit, up_miss, n_le, n_lt, n_eq, n_eq0, n_lt0, n_0le, n_0lt, n_le0, zb_0, zb_1, if_pos, if_neg, ↓reduceIte, Nat.reduceAdd, Nat.reduceMul, Nat.reduceSub, s2]
  · rw [e7 15 (by omega), ← hm5]; simp (disch := omega) only [up_miss]; exact y4
  · rw [e6 114 (by omega), ← hm5]; simp (disch := omega) only [up_rn]; exact y5
  · rw [e7 18 (by omega), ← hm5, List.length_cons]; simp (disch := omega) only [ltE, bnE, bn2E, gdE, nc, nI_add, n_mul, n_sub, ib_nI, up_hit, up_miss, n_le, n_lt, n_eq, n_eq0, n_lt0, n_0le, n_0lt, n_le0, zb_0, zb_1, if_pos, if_neg, ↓reduceIte, Nat.reduceAdd, Nat.reduceMul, Nat.reduceSub]
  · rw [e6 115 (by omega), ← hm5]
    refine ⟨by simp (disch := omega) only [ltE, bnE, bn2E, gdE, nc, nI_add, n_mul, n_sub, ib_nI, up_hit, up_miss, n_le, n_lt, n_eq, n_eq0, n_lt0, n_0le, n_0lt, n_le0, zb_0, zb_1, if_pos, if_neg, ↓reduceIte, Nat.reduceAdd, Nat.reduceMul, Nat.reduceSub], ?_⟩
    simp (disch := omega) only [up_rn]
    exact RR.cg base y3 (fun i hi => by simp (disch := omega) only [ltE, bnE, bn2E, gdE, nc, nI_add, n_mul, n_sub, ib_nI, up_hit, up_miss, n_le, n_lt, n_eq, n_eq0, n_lt0, n_0le, n_0lt, n_le0, zb_0, zb_1, if_pos, if_neg, ↓reduceIte, Nat.reduceAdd, Nat.reduceMul, Nat.reduceSub])
  · rw [e7 16 (by omega), ← hm5]; simp (disch := omega) only [up_miss]; rw [y7 16 (by omega) (by omega)]; simp (disch := omega) only [ltE, bnE, bn2E, gdE, nc, nI_add, n_mul, n_sub, ib_nI, up_hit, up_miss, n_le, n_lt, n_eq, n_eq0, n_lt0, n_0le, n_0lt, n_le0, zb_0, zb_1, if_pos, if_neg, ↓reduceIte, Nat.reduceAdd, Nat.reduceMul, Nat.reduceSub, s10]
  · rw [hlr, List.length_cons]; omega
  · rw [e6 116 (by omega), ← hm5]; simp (disch := omega) only [up_rn]; rw [y6 116 (by omega) (by omega), up_hit]
  · rw [e6 116 (by omega), ← hm5]; simp (disch := omega) only [up_rn]; rw [y6 116 (by omega) (by omega), up_miss (Or.inr hi)]
  · refine ⟨fun r r1 r2 r3 => e5 r r2, fun r r1 r2 r3 r4 => ?_, fun i hi => ?_⟩
    · rw [e6 r r1, ← hm5]; simp (disch := omega) only [up_rn]; rw [y6 r r1 r2]; (simp (disch := omega) only [up_rn])
    · rw [e7 i (by omega), ← hm5]; simp (disch := omega) only [up_miss]; rw [y7 i (by omega) (by omega)]; (simp (disch := omega) only [up_miss])
theorem level5 {d b k : Nat} (ih : PieceOK n B T key d b k) : LevelOK n B T key (d + 1) 5 b k := by
  intro q f m W base a st en kk v h hS hb hk hV hh ha ht ht2 hq
  have cF : (rd n 99 (d + 1)).1 (nI 5) (nI b) (nI k) f = (bn2 ((rd n 99 d).2.1 (nI b) (nI k) f) fun r21 f20 => gd (zb r21) (some (r21, f20))) := by
    show fX3_readLevel n (rd n 99 d).1 (rd n 99 d).2.1 99 (nI 5) (nI b) (nI k) f = _
    unfold fX3_readLevel
    rw [if_neg (by decide)]
  rcases ih q f m W base 0 a st en kk v h (by simpa using hS) hb (by omega) hV hh ha hq with ⟨f', m', s, w1, w2, w3, w4, w5, w6⟩ | ⟨f', m', q', W', a', st', en', kk', v', w1, w2, w3, w4, w5, w6, w7, w8, w9, w10⟩
  · left
    exact ⟨f', m', s, by rw [cF, w1]; rfl, w2, w3, w4, w5, w6⟩
  · right
    rw [List.replicate_zero, List.nil_append] at w3
    refine ⟨f', m', q', W', W', [], a', st', en', kk', v', by rw [cF, w1]; rfl, by rw [w2, Nat.sub_zero], w3, rfl, w4, w5, w6, fun c hc => by simp at hc, w7, w8, ?_, fun i hi => w9 i (by omega), by rw [w9 b (Nat.le_refl _)]; exact ht, fun _ => w9 b (Nat.le_refl _), w10⟩
    rcases sign_sim (n := n) w3.1 with ⟨g1, _⟩ | ⟨_, _, _, _, L, c, g4, g5, _⟩
    · exact Or.inl g1
    · exact Or.inr ⟨L, g4, g5, Or.inl g4⟩
theorem level_lt {d L b k : Nat} (hn : 2000 ≤ n) (hL5 : L < 5) (hb8 : b ≤ 8) (ih : LevelOK n B T key d (L + 1) b k) : LevelOK n B T key (d + 1) L b k := by
  intro q f m W base a st en kk v h hS hb hk hV hh ha ht ht2 hq
  have nz1 : ¬ (nI 1 : Int32) = 0 := by decide
  have hL2 : (nI L = nI 2) = (L = 2) := n_eq (by omega) (by omega)
  have cF : (rd n 99 (d + 1)).1 (nI L) (nI b) (nI k) f = (bn2 ((rd n 99 d).1 (nI (L + 1)) (nI b) (nI k) f) fun r4 f3 => if r4 = 0 then some (nI 0, f3) else if L = 2 then fX3_readLevel_42L n (rd n 99 d).1 (rd n 99 d).2.1 99 n (nI L) (nI b) (nI k) (nI 1) (nI 0) f3 else fX3_readLevel_42L n (rd n 99 d).1 (rd n 99 d).2.1 99 n (nI L) (nI b) (nI k) (nI 96) (nI 0) f3) := by
    show fX3_readLevel n (rd n 99 d).1 (rd n 99 d).2.1 99 (nI L) (nI b) (nI k) f = _
    unfold fX3_readLevel fX3_readLevel_37
    rw [if_pos (by rw [n_le (by omega) (by omega)]; omega), nI_add]
    simp only [hL2]
  /- the loop -/
  have lp : ∀ (most : Nat), (most = 1 ∧ L = 2) ∨ (most = 96 ∧ L ≠ 2) → ∀ (Q i q1 : Nat) (f1 m1 : Mm) (W1 rc1 pend1 : List Int32) (a1 st1 en1 kk1 v1 : Nat), ST B T key f1 m1 (W1.map (trT key)) rc1 (pend1 ++ base) a1 st1 en1 kk1 v1 → W1 = pend1.reverse ++ rc1 → VALs key W1 → hL W1 = some (h + 1) → na W1 = a1 → (∀ c ∈ pend1, c ≠ -11 ∧ ∃ x, L + 1 ≤ x ∧ x ≤ 6 ∧ fX12_rank n c = some (nI x)) → T + 2 ≤ q1 + st1 → i + st < st1 → T + 1 ≤ Q + st1 → i ≤ most →
      (fX3_levelOf n (f1 100 2) = some (-1) ∨ ∃ l, l < 5 ∧ fX3_levelOf n (f1 100 2) = some (nI l) ∧ (l < L + 1 ∨ (l = 2 ∧ m1 116 b = nI 1))) → (∀ i, i < b → m1 116 i = m 116 i) → (m1 116 b = nI 0 ∨ m1 116 b = nI 1) → (3 ≤ L → m1 116 b = m 116 b) → (L = 2 → m1 116 b = nI i) → FRM f m f1 m1 →
      FL (fX3_readLevel_42L n (rd n 99 d).1 (rd n 99 d).2.1 99 Q (nI L) (nI b) (nI k) (nI most) (nI i) f1) (Kk n q1 b k 0 m1) f m ∨ ∃ f' m' q' W' rc pend a' st' en' kk' v', fX3_readLevel_42L n (rd n 99 d).1 (rd n 99 d).2.1 99 Q (nI L) (nI b) (nI k) (nI most) (nI i) f1 = some (nI 1, f') ∧ Kk n q1 b k 0 m1 = Kk n q' b k 0 m' ∧ ST B T key f' m' (W'.map (trT key)) rc (pend ++ base) a' st' en' kk' v' ∧ W' = pend.reverse ++ rc ∧ VALs key W' ∧ hL W' = some (h + 1) ∧ na W' = a' ∧ (∀ c ∈ pend, c ≠ -11 ∧ ∃ x, L + 1 ≤ x ∧ x ≤ 6 ∧ fX12_rank n c = some (nI x)) ∧ T + 2 ≤ q' + st' ∧ st < st' ∧ (fX3_levelOf n (f' 100 2) = some (-1) ∨ ∃ l, l < 5 ∧ fX3_levelOf n (f' 100 2) = some (nI l) ∧ (l < L ∨ (l = 2 ∧ m' 116 b = nI 1))) ∧ (∀ i, i < b → m' 116 i = m 116 i) ∧ (m' 116 b = nI 0 ∨ m' 116 b = nI 1) ∧ (3 ≤ L → m' 116 b = m 116 b) ∧ FRM f m f' m' := by
    intro most hmost Q
    induction Q with
    | zero =>
      intro i q1 f1 m1 W1 rc1 pend1 a1 st1 en1 kk1 v1 h1 _ _ _ _ _ _ _ h9
      have := h1.st
      omega
    | succ Q ihQ =>
      intro i q1 f1 m1 W1 rc1 pend1 a1 st1 en1 kk1 v1 h1 h2 h3 h4 h5 h6 h7 h8 h9 h10 h11 h12 h13 h14 h15 h16
      have hs1 := h1.st
      have cL : fX3_readLevel_42L n (rd n 99 d).1 (rd n 99 d).2.1 99 (Q + 1) (nI L) (nI b) (nI k) (nI most) (nI i) f1 = fX3_readLevel_42 n (rd n 99 d).1 (rd n 99 d).2.1 99 (fX3_readLevel_42L n (rd n 99 d).1 (rd n 99 d).2.1 99 Q) (nI L) (nI b) (nI k) (nI most) (nI i) f1 := rfl
      have done : fX3_readLevel_42 n (rd n 99 d).1 (rd n 99 d).2.1 99 (fX3_readLevel_42L n (rd n 99 d).1 (rd n 99 d).2.1 99 Q) (nI L) (nI b) (nI k) (nI most) (nI i) f1 = some (nI 1, f1) → (fX3_levelOf n (f1 100 2) = some (-1) ∨ ∃ l, l < 5 ∧ fX3_levelOf n (f1 100 2) = some (nI l) ∧ (l < L ∨ (l = 2 ∧ m1 116 b = nI 1))) → ∃ f' m' q' W' rc pend a' st' en' kk' v', fX3_readLevel_42L n (rd n 99 d).1 (rd n 99 d).2.1 99 (Q + 1) (nI L) (nI b) (nI k) (nI most) (nI i) f1 = some (nI 1, f') ∧ Kk n q1 b k 0 m1 = Kk n q' b k 0 m' ∧ ST B T key f' m' (W'.map (trT key)) rc (pend ++ base) a' st' en' kk' v' ∧ W' = pend.reverse ++ rc ∧ VALs key W' ∧ hL W' = some (h + 1) ∧ na W' = a' ∧ (∀ c ∈ pend, c ≠ -11 ∧ ∃ x, L + 1 ≤ x ∧ x ≤ 6 ∧ fX12_rank n c = some (nI x)) ∧ T + 2 ≤ q' + st' ∧ st < st' ∧ (fX3_levelOf n (f' 100 2) = some (-1) ∨ ∃ l, l < 5 ∧ fX3_levelOf n (f' 100 2) = some (nI l) ∧ (l < L ∨ (l = 2 ∧ m' 116 b = nI 1))) ∧ (∀ i, i < b → m' 116 i = m 116 i) ∧ (m' 116 b = nI 0 ∨ m' 116 b = nI 1) ∧ (3 ≤ L → m' 116 b = m 116 b) ∧ FRM f m f' m' :=
        fun e p => ⟨f1, m1, q1, W1, rc1, pend1, a1, st1, en1, kk1, v1, cL.trans e, rfl, h1, h2, h3, h4, h5, h6, h7, by omega, p, h12, h13, h14, h16⟩
      by_cases qi : most ≤ i
      · right
        rcases hmost with ⟨m1e, L2⟩ | ⟨m1e, _⟩
        · refine done ?_ ?_
          · unfold fX3_readLevel_42
            rw [if_pos (by rw [n_le (by omega) (by omega)]; exact qi)]
          · have i1 : i = 1 := by omega
            subst i1
            rcases h11 with x | ⟨l, l1, l2, l3 | l3⟩
            · exact Or.inl x
            · refine Or.inr ⟨l, l1, l2, ?_⟩
              by_cases l2e : l = 2
              · exact Or.inr ⟨l2e, h15 L2⟩
              · left; omega
            · exact Or.inr ⟨l, l1, l2, Or.inr l3⟩
        · omega
      have hi96 : i < 96 := by omega
      have hm96 : most ≤ 96 := by omega
      have qi' : ¬ nI most ≤ nI i := by rw [n_le (by omega) (by omega)]; exact qi
      rcases sign_sim (n := n) h1.1 with ⟨g1, g2⟩ | ⟨g0, g1, g2, g3, l, c, g4, g5, g6, g7, g8, g9, g10, g11, g12⟩
      · right
        refine done ?_ (Or.inl g1)
        unfold fX3_readLevel_42
        rw [if_neg qi', show 99 + 1 = 100 from rfl, g1, bnE, if_neg (fun e => (m1_nI (show L < 1000 by omega)).mp e)]
      · by_cases lL : l = L
        · subst lL
          have g0' : kk1 = 3 := g0
          subst g0'
          obtain ⟨q2, rfl⟩ : ∃ p, q1 = p + 1 := ⟨q1 - 1, by omega⟩
          have hi0 : l = 2 → m1 116 b = nI 0 := fun e => by
            rw [h15 e]
            rcases hmost with ⟨m1e, _⟩ | ⟨_, x⟩
            · rw [show i = 0 from by omega]
            · exact absurd e x
          obtain ⟨f2, m2, st2, en2, k2, v2, y1, y2, y3, y4, y5, y6, y7⟩ := r_sign (n := n) (q := q2) (k := k) hn h1 hb8 hb hL5 h6 h13 hi0 g3 g6 g7 g8
          rw [← h2] at y3
          have ck : cN (c :: base) = k := by simp only [cN, if_neg g10, Nat.add_zero]; exact hk
          have tb2 : m2 116 b = nI 0 ∨ m2 116 b = nI 1 := by
            rw [y5]
            split
            · exact Or.inr rfl
            · split
              · exact Or.inl rfl
              · exact h13
          have tL : l + 1 ≤ 2 → m2 116 b = nI 0 := fun e => by rw [y5, if_neg (by omega), if_pos (by omega)]
          rcases ih q2 f2 m2 W1 (c :: base) a1 st2 en2 k2 v2 (h + 1) y3 (Or.inr ⟨c, base, rfl, Or.inr ⟨l + 1, by omega, by omega, g8⟩⟩) ck h3 h4 h5 tb2 tL (by omega) with ⟨f', m', s, w1, w2, w3, w4, w5, w6⟩ | ⟨f3, m3, q3, W3, rc3, pend3, a3', st3, en3, kk3, v3, w1, w2, w3, w4, w5, w6, w7, w8, w9, w10, w11, w12, w13, w14, w15⟩
          · left
            refine ⟨f', m', s, ?_, by rw [y2]; exact w2, w3, w4, w5, (h16.trans y7).trans w6⟩
            rw [cL]
            unfold fX3_readLevel_42
            rw [if_neg qi', show 99 + 1 = 100 from rfl, g5, bnE, if_pos rfl, y1, bnE, nI_add, w1]
            rfl
          · have hs3 := w3.st
            obtain ⟨t0, t1, t2, t3, t4, t5, t6, t7, t8, t9, t10, t11⟩ := w3
            have hW3 : W3.length = pend3.length + rc3.length := by rw [w4]; simp
            rw [List.length_map] at t3
            have hsz : W3.length + 1 + base.length + 4 ≤ st3 := by
              rw [List.length_append, List.length_cons] at t11; omega
            have hap : pend3 ++ c :: base = (pend3 ++ [c]) ++ base := by simp
            have hST4 : ST B T key (up (up f3 102 W3.length (nI (10000 + v1))) 99 2 (nI (W3.length + 1))) m3 ((c :: W3).map (trT key)) rc3 ((pend3 ++ [c]) ++ base) a3' st3 en3 kk3 v3 := by
              rw [← hap]
              refine ⟨t0.cg (by (simp (disch := omega) only [up_rn])) (by (simp (disch := omega) only [up_rn])) rfl (fun _ _ _ => rfl), by simp (disch := omega) only [ltE, bnE, bn2E, gdE, nc, nI_add, n_mul, n_sub, ib_nI, up_hit, up_miss, n_le, n_lt, n_eq, n_eq0, n_lt0, n_0le, n_0lt, n_le0, zb_0, zb_1, if_pos, if_neg, ↓reduceIte, Nat.reduceAdd, Nat.reduceMul, Nat.reduceSub, t1], t2, by rw [List.length_map, List.length_cons]; simp (disch := omega) only [ltE, bnE, bn2E, gdE, nc, nI_add, n_mul, n_sub, ib_nI, up_hit, up_miss, n_le, n_lt, n_eq, n_eq0, n_lt0, n_0le, n_0lt, n_le0, zb_0, zb_1, if_pos, if_neg, ↓reduceIte, Nat.reduceAdd, Nat.reduceMul, Nat.reduceSub], ?_, t5, t6, t7, t8, by simp (disch := omega) only [ltE, bnE, bn2E, gdE, nc, nI_add, n_mul, n_sub, ib_nI, up_hit, up_miss, n_le, n_lt, n_eq, n_eq0, n_lt0, n_0le, n_0lt, n_le0, zb_0, zb_1, if_pos, if_neg, ↓reduceIte, Nat.reduceAdd, Nat.reduceMul, Nat.reduceSub, t9], t10, t11⟩
              rw [up_rn (by omega), List.map_cons]
              refine ⟨by rw [List.length_map, up_hit]; unfold trT; rw [g12]; rfl, RR.cg _ t4 (fun i hi => ?_)⟩
              rw [List.length_map] at hi
              simp (disch := omega) only [ltE, bnE, bn2E, gdE, nc, nI_add, n_mul, n_sub, ib_nI, up_hit, up_miss, n_le, n_lt, n_eq, n_eq0, n_lt0, n_0le, n_0lt, n_le0, zb_0, zb_1, if_pos, if_neg, ↓reduceIte, Nat.reduceAdd, Nat.reduceMul, Nat.reduceSub]
            have f42 : (up (up f3 102 W3.length (nI (10000 + v1))) 99 2 (nI (W3.length + 1))) 100 2 = f3 100 2 := by simp (disch := omega) only [ltE, bnE, bn2E, gdE, nc, nI_add, n_mul, n_sub, ib_nI, up_hit, up_miss, n_le, n_lt, n_eq, n_eq0, n_lt0, n_0le, n_0lt, n_le0, zb_0, zb_1, if_pos, if_neg, ↓reduceIte, Nat.reduceAdd, Nat.reduceMul, Nat.reduceSub]
            have eL : fX3_readLevel_42L n (rd n 99 d).1 (rd n 99 d).2.1 99 (Q + 1) (nI l) (nI b) (nI k) (nI most) (nI i) f1 = fX3_readLevel_42L n (rd n 99 d).1 (rd n 99 d).2.1 99 Q (nI l) (nI b) (nI k) (nI most) (nI (i + 1)) (up (up f3 102 W3.length (nI (10000 + v1))) 99 2 (nI (W3.length + 1))) := by
              rw [cL]
              unfold fX3_readLevel_42
              rw [if_neg qi', show 99 + 1 = 100 from rfl, g5, bnE, if_pos rfl, y1, bnE, nI_add, w1, bn2E, if_neg nz1, g1, nI_add, c_addPiece (n := n) (x := nI (10000 + v1)) t3 (by omega), bnE, nI_add]
            rw [eL, y2, w2]
            refine ihQ (i + 1) q3 _ m3 (c :: W3) rc3 (pend3 ++ [c]) a3' st3 en3 kk3 v3 hST4 (by rw [List.reverse_append, w4]; rfl) (w5.cons (g12 key)) (by simp only [hL, w6, Option.bind_some]; exact hgt_bin g11 g10) (by simp only [na, w7, if_neg g11, Nat.add_zero]) (fun d hd => ?_) w9 (by omega) (by omega) (by omega) (by rw [f42]; exact w11) (fun i hi => by rw [w12 i hi, y6 i (by omega)]; exact h12 i hi) w13 (fun e => ?_) (fun e => ?_) (((h16.trans y7).trans w15).trans ⟨fun r r1 r2 r3 => by (simp (disch := omega) only [up_rn]), fun _ _ _ _ _ => rfl, fun _ _ => rfl⟩)
            · rcases List.mem_append.mp hd with hd | hd
              · obtain ⟨x1, x, x2, x3, x4⟩ := w8 d hd
                exact ⟨x1, x, by omega, x3, x4⟩
              · rw [List.mem_singleton] at hd
                subst hd
                exact ⟨g9, l + 1, by omega, by omega, g8⟩
            · rw [w14 (by omega), y5, if_neg (by omega), if_neg (by omega)]; exact h14 e
            · rw [w14 (by omega), y5, if_pos e]
              rcases hmost with ⟨m1e, _⟩ | ⟨_, x⟩
              · rw [show i + 1 = 1 from by omega]
              · exact absurd e x
        · right
          refine done ?_ ?_
          · unfold fX3_readLevel_42
            rw [if_neg qi', show 99 + 1 = 100 from rfl, g5, bnE, if_neg (by rw [n_eq (by omega) (by omega)]; exact lL)]
          · rcases h11 with x | ⟨l', l1, l2, l3⟩
            · exact Or.inl x
            · rw [g5] at l2
              have := Option.some.inj l2
              rw [n_eq (by omega) (by omega)] at this
              subst this
              refine Or.inr ⟨l, l1, g5, ?_⟩
              rcases l3 with l3 | l3
              · left; omega
              · exact Or.inr l3
  rcases ih q f m W base a st en kk v h hS (hb.mono (by omega)) hk hV hh ha ht (fun e => ht2 (by omega)) hq with ⟨f', m', s, w1, w2, w3, w4, w5, w6⟩ | ⟨f1, m1, q1, W1, rc1, pend1, a1, st1, en1, kk1, v1, w1, w2, w3, w4, w5, w6, w7, w8, w9, w10, w11, w12, w13, w14, w15⟩
  · left
    exact ⟨f', m', s, by rw [cF, w1]; rfl, w2, w3, w4, w5, w6⟩
  · have hp1 : ∀ c ∈ pend1, c ≠ -11 ∧ ∃ x, L + 1 ≤ x ∧ x ≤ 6 ∧ fX12_rank n c = some (nI x) := fun c hc => by
      obtain ⟨x1, x, x2, x3, x4⟩ := w8 c hc
      exact ⟨x1, x, by omega, x3, x4⟩
    have hs1 := w3.st
    by_cases e2 : L = 2
    · have := lp 1 (Or.inl ⟨rfl, e2⟩) n 0 q1 f1 m1 W1 rc1 pend1 a1 st1 en1 kk1 v1 w3 w4 w5 w6 w7 hp1 w9 (by omega) (by omega) (by omega) w11 w12 w13 (fun e => w14 (by omega)) (fun _ => by rw [w14 (by omega)]; exact ht2 (by omega)) w15
      rw [cF, w1, w2, bn2E, if_neg nz1, if_pos e2]
      exact this
    · have := lp 96 (Or.inr ⟨rfl, e2⟩) n 0 q1 f1 m1 W1 rc1 pend1 a1 st1 en1 kk1 v1 w3 w4 w5 w6 w7 hp1 w9 (by omega) (by omega) (by omega) w11 w12 w13 (fun e => w14 (by omega)) (fun e => absurd e e2) w15
      rw [cF, w1, w2, bn2E, if_neg nz1, if_neg e2]
      exact this
/-- both readers, to any depth -/
theorem readers (hn : 2000 ≤ n) (hkey : key ≤ 2) : ∀ d, (∀ L b k, L ≤ 5 → b ≤ 8 → k ≤ 8 → (6 - L) + Pd b k ≤ d → LevelOK n B T key d L b k) ∧ (∀ b k, b ≤ 8 → k ≤ 8 → Pd b k ≤ d → PieceOK n B T key d b k) := by
  intro d
  induction d using Nat.strongRecOn with
  | ind d ih =>
    refine ⟨fun L b k hL hb hk hd => ?_, fun b k hb hk hd => piece_ok hn hkey hb hk hd (fun d' hd' => (ih d' hd').2) (fun d' hd' b k hb hk hd2 => (ih d' hd').1 0 b k (by omega) hb hk (by omega))⟩
    obtain ⟨d1, rfl⟩ : ∃ p, d = p + 1 := ⟨d - 1, by omega⟩
    by_cases h5 : L = 5
    · subst h5
      exact level5 ((ih d1 (by omega)).2 b k hb hk (by omega))
    · exact level_lt hn (by omega) hb ((ih d1 (by omega)).1 (L + 1) b k (by omega) hb hk (by omega))
end LV
