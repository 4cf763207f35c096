/-! bytes that are fed; heights that are poured -/
theorem byt (x : BitVec 32) (k : Nat) (hk : k ≤ 24) : (x >>> k) &&& 255#32 = (x.sshiftRight k) &&& 255#32 := by
  apply BitVec.eq_of_getLsbD_eq
  intro i hi
  rw [BitVec.getLsbD_and, BitVec.getLsbD_and]
  by_cases h : i < 8
  · rw [BitVec.getLsbD_ushiftRight, BitVec.getLsbD_sshiftRight]
    have h1 : ¬ 32 ≤ i := by omega
    have h2 : k + i < 32 := by omega
    simp [h1, h2]
  · have : ∀ i, i < 32 → ¬ i < 8 → (255#32).getLsbD i = false := by decide
    rw [this i hi h, Bool.and_false, Bool.and_false]
theorem by_eq (x : Int32) {s : Nat} (hs : s = 0 ∨ s = 8 ∨ s = 16 ∨ s = 24) : ushr x (nI s) &&& nI 255 = shrI x (nI s) &&& nI 255 := by
  apply Int32.toBitVec_inj.mp
  have k := byt x.toBitVec s (by omega)
  rcases hs with rfl | rfl | rfl | rfl <;> exact k
theorem by_lt (y : Int32) : ∃ b, b < 256 ∧ y &&& nI 255 = nI b := by
  refine ⟨y.toBitVec.toNat % 256, by omega, bv_nI ?_ (by omega)⟩
  show (y.toBitVec &&& (nI 255).toBitVec).toNat = _
  rw [BitVec.toNat_and]
  exact Nat.and_two_pow_sub_one_eq_mod y.toBitVec.toNat 8
theorem Inv.tp {N : Nat} {f f' m m' : Mm} (h : Inv N f m) (ht : cTp f' m') (hf : ∀ k, k < 99 ∨ 102 < k → f' k = f k) (hm : ∀ k, k < 107 ∨ (108 ≤ k ∧ k ≤ 110) ∨ k = 112 ∨ k = 113 ∨ 118 < k → m' k = m k) (h3 : m' 107 3 = m 107 3) (h33 : m' 107 33 = m 107 33) : Inv N f' m' := by
  obtain ⟨hN, hW, h1, h2, h3', h4, h5, ⟨h6, h7⟩, h8⟩ := h
  have hl : lwSame N f f' := lwSame.of (fun k hk => hf k (by omega))
  refine ⟨hN, ?_, ?_, h2.cg (fun k a b => hf k (by omega)) (fun k a b => hm k (by omega)), h3'.cg (fun k a b => hf k (by omega)) (fun k a b => hm k (by omega)), ?_, ht, ⟨fun i hi => ?_, fun i hi => ?_⟩, ?_⟩
  · rw [hm 108 (by omega)]; exact hW.cg (fun k a b => hf k (by omega)) hl (fun _ => rfl)
  · unfold cIm at *
    rw [hf 0 (by omega), h3, hm 109 (by omega), hm 108 (by omega)]
    exact ⟨h1.1, h1.2.elim Or.inl (fun q => Or.inr ⟨q.1, q.2.1, q.2.2.1.cg (fun k k1 k2 => hf k (by omega)) hl (fun _ => rfl), q.2.2.2⟩)⟩
  · unfold cTe at *
    rw [hf 0 (by omega), hf 98 (by omega), h33, hm 129 (by omega)]
    exact h4
  · rw [hm 112 (by omega)]; exact h6 i hi
  · rw [hm 113 (by omega)]; exact h7 i hi
  · unfold cRm at *
    rw [hf 30 (by omega), hf 42 (by omega), hf 54 (by omega), hf 66 (by omega)]
    exact h8
def shF (i : Nat) : Int32 := nI 24 - nI (8 * i)
theorem shF_s : ∀ i, i < 4 → shF i + (-8) = shF (i + 1) ∧ ¬ shF i < 0 ∧ shF i = nI (24 - 8 * i) := by decide
theorem shF_4 : shF 4 < 0 := by decide
theorem shR : ∀ i, i < 12 → nI 24 - nI 8 * irm (nI i) (nI 4) = nI (24 - 8 * (i % 4)) := by decide
section WF
variable {n : Nat}
theorem c_add4 {T : Nat} {x : Int32} {f : Mm} (hn : 2000 ≤ n) (hT : T + 4 ≤ 96) (h1 : f 100 1 = nI T) : ∃ f', fX9_addBytesOf n 100 x f = some f' ∧ f' 100 1 = nI (T + 4) ∧ (∀ i, f' 101 i = if T ≤ i ∧ i < T + 4 then ushr x (nI (24 - 8 * (i - T))) &&& nI 255 else f 101 i) ∧ ∀ k, k ≠ 100 → k ≠ 101 → f' k = f k := by
  unfold fX9_addBytesOf
  have L := loopInv (fun q i (s : Mm) => fX9_addBytesOf_3L n 100 q x (shF i) s) 4 (fun i s => s 100 1 = nI (T + i) ∧ (∀ k, s 101 k = if T ≤ k ∧ k < T + i then ushr x (nI (24 - 8 * (k - T))) &&& nI 255 else f 101 k) ∧ ∀ k, k ≠ 100 → k ≠ 101 → s k = f k)
    (fun s => s 100 1 = nI (T + 4) ∧ (∀ k, s 101 k = if T ≤ k ∧ k < T + 4 then ushr x (nI (24 - 8 * (k - T))) &&& nI 255 else f 101 k) ∧ ∀ k, k ≠ 100 → k ≠ 101 → s k = f k)
    (fun q s h => ⟨s, by simp only [fX9_addBytesOf_3L, fX9_addBytesOf_3, shF_4, if_true], h⟩) ?_ n 0 f (by omega) (by omega) ⟨h1, fun k => by rw [if_neg (by omega)], fun k _ _ => rfl⟩
  · obtain ⟨f', e, h⟩ := L
    exact ⟨f', e, h⟩
  · rintro q i s hi ⟨w1, w2, w3⟩
    obtain ⟨u1, u2, u3⟩ := shF_s i hi
    refine Or.inr ⟨up (up s 101 (T + i) (ushr x (nI (24 - 8 * i)) &&& nI 255)) 100 1 (nI (T + i + 1)), ?_, by rw [up_hit]; rfl, fun k => ?_, fun k a b => by rw [up_rn a, up_rn b]; exact w3 k a b⟩
    · show fX9_addBytesOf_3 n 100 (fX9_addBytesOf_3L n 100 q) x (shF i) s = _
      unfold fX9_addBytesOf_3 fX9_addBytesOf_42
      rw [if_neg u2, u1, u3]
      simp (disch := omega) only [ltE, bnE, bn2E, gdE, nc, nI_add, n_mul, n_sub, ib_nI, up_hit, up_miss, n_le, n_lt, n_eq, n_eq0, n_lt0, n_0le, n_0lt, n_le0, zb_0, zb_1, if_pos, if_neg, ↓reduceIte, Nat.reduceAdd, Nat.reduceMul, Nat.reduceSub, w1, show ¬ 96 ≤ T + i from by omega]
    · rw [up_rn (by omega)]
      by_cases e : k = T + i
      · subst e
        rw [up_hit, if_pos (by omega), show T + i - T = i from by omega]
      · rw [up_miss (Or.inr e), w2 k]
        by_cases w : T ≤ k ∧ k < T + i
        · rw [if_pos w, if_pos (by omega)]
        · rw [if_neg w, if_neg (by omega)]
def a3 (x y z : Int32) (i : Nat) : Int32 := if i < 4 then x else if i < 8 then y else z
theorem r_add12 {T : Nat} {x y z : Int32} {m : Mm} (hn : 2000 ≤ n) (hT : T + 12 ≤ 96) (h1 : m 107 5 = nI T) : ∃ m', fX12_feed_18L n n x y z (nI 0) m = some (nI (T + 12), m') ∧ m' 107 5 = nI (T + 12) ∧ (∀ i, i ≠ 5 → m' 107 i = m 107 i) ∧ (∀ i, m' 111 i = if T ≤ i ∧ i < T + 12 then shrI (a3 x y z (i - T)) (nI (24 - 8 * ((i - T) % 4))) &&& nI 255 else m 111 i) ∧ ∀ k, k ≠ 107 → k ≠ 111 → m' k = m k := by
  have L := loopInv (fun q i (s : Mm) => fX12_feed_18L n q x y z (nI i) s) 12 (fun i s => (∀ k, s 111 k = if T ≤ k ∧ k < T + i then shrI (a3 x y z (k - T)) (nI (24 - 8 * ((k - T) % 4))) &&& nI 255 else m 111 k) ∧ ∀ k, k ≠ 111 → s k = m k)
    (fun r => r.1 = nI (T + 12) ∧ r.2 107 5 = nI (T + 12) ∧ (∀ i, i ≠ 5 → r.2 107 i = m 107 i) ∧ (∀ k, r.2 111 k = if T ≤ k ∧ k < T + 12 then shrI (a3 x y z (k - T)) (nI (24 - 8 * ((k - T) % 4))) &&& nI 255 else m 111 k) ∧ ∀ k, k ≠ 107 → k ≠ 111 → r.2 k = m k)
    ?_ ?_ n 0 m (by omega) (by omega) ⟨fun k => by rw [if_neg (by omega)], fun k _ => rfl⟩
  · obtain ⟨⟨r, m'⟩, e, h0, h⟩ := L
    have h0 : r = nI (T + 12) := h0
    subst h0
    exact ⟨m', e, h⟩
  · rintro q s ⟨w1, w2⟩
    have e5 : s 107 5 = nI T := by rw [w2 107 (by omega)]; exact h1
    have y1 : up s 107 5 (nI (T + 12)) 107 5 = nI (T + 12) := up_hit
    have y2 : ∀ i, i ≠ 5 → up s 107 5 (nI (T + 12)) 107 i = m 107 i := fun i hi => by rw [up_miss (Or.inr hi), w2 107 (by omega)]
    have y3 : ∀ k, up s 107 5 (nI (T + 12)) 111 k = s 111 k := fun k => by rw [up_rn (by omega)]
    have y4 : ∀ k, k ≠ 107 → k ≠ 111 → up s 107 5 (nI (T + 12)) k = m k := fun k a b => by rw [up_rn a]; exact w2 k b
    refine ⟨(nI (T + 12), up s 107 5 (nI (T + 12))), ?_, rfl, y1, y2, fun k => (y3 k).trans (w1 k), y4⟩
    simp (disch := omega) only [ltE, bnE, bn2E, gdE, nc, nI_add, n_mul, n_sub, ib_nI, up_hit, up_miss, n_le, n_lt, n_eq, n_eq0, n_lt0, n_0le, n_0lt, n_le0, zb_0, zb_1, if_pos, if_neg, ↓reduceIte, Nat.reduceAdd, Nat.reduceMul, Nat.reduceSub, fX12_feed_47, fX12_feed_18, fX12_feed_18L, Nat.le_refl, e5]
  · rintro q i s hi ⟨w1, w2⟩
    have e5 : s 107 5 = nI T := by rw [w2 107 (by omega)]; exact h1
    refine Or.inr ⟨up s 111 (T + i) (shrI (a3 x y z i) (nI (24 - 8 * (i % 4))) &&& nI 255), ?_, fun k => ?_, fun k hk => by rw [up_rn hk]; exact w2 k hk⟩
    · show fX12_feed_18 n (fX12_feed_18L n q) x y z (nI i) s = _
      unfold fX12_feed_18 fX12_feed_47 a3
      by_cases c1 : i < 4
      · simp (disch := omega) only [ltE, bnE, bn2E, gdE, nc, nI_add, n_mul, n_sub, ib_nI, up_hit, up_miss, n_le, n_lt, n_eq, n_eq0, n_lt0, n_0le, n_0lt, n_le0, zb_0, zb_1, if_pos, if_neg, ↓reduceIte, Nat.reduceAdd, Nat.reduceMul, Nat.reduceSub, show ¬ 12 ≤ i from by omega, show ¬ 4 ≤ i from by omega, shR i hi, e5, c1]
      · by_cases c2 : i < 8
        · simp (disch := omega) only [ltE, bnE, bn2E, gdE, nc, nI_add, n_mul, n_sub, ib_nI, up_hit, up_miss, n_le, n_lt, n_eq, n_eq0, n_lt0, n_0le, n_0lt, n_le0, zb_0, zb_1, if_pos, if_neg, ↓reduceIte, Nat.reduceAdd, Nat.reduceMul, Nat.reduceSub, show ¬ 12 ≤ i from by omega, show 4 ≤ i from by omega, show ¬ 8 ≤ i from by omega, shR i hi, e5, c1, c2]
        · simp (disch := omega) only [ltE, bnE, bn2E, gdE, nc, nI_add, n_mul, n_sub, ib_nI, up_hit, up_miss, n_le, n_lt, n_eq, n_eq0, n_lt0, n_0le, n_0lt, n_le0, zb_0, zb_1, if_pos, if_neg, ↓reduceIte, Nat.reduceAdd, Nat.reduceMul, Nat.reduceSub, show ¬ 12 ≤ i from by omega, show 4 ≤ i from by omega, show 8 ≤ i from by omega, shR i hi, e5, c1, c2]
    · by_cases e : k = T + i
      · subst e
        rw [up_hit, if_pos (by omega), show T + i - T = i from by omega]
      · rw [up_miss (Or.inr e), w1 k]
        by_cases w : T ≤ k ∧ k < T + i
        · rw [if_pos w, if_pos (by omega)]
        · rw [if_neg w, if_neg (by omega)]
theorem s_feed (hn : 2000 ≤ n) : SP_feed Inv n := by
  intro N f m x y z hI
  obtain ⟨T, T1, T2, T3, T4⟩ := hI.2.2.2.2.2.2.1
  unfold fX11_feed fX12_feed
  by_cases q : T + 12 ≤ 96
  · obtain ⟨f1, e1, u1, u2, u3⟩ := c_add4 (n := n) (x := x) hn (by omega) T2
    obtain ⟨f2, e2, v1, v2, v3⟩ := c_add4 (n := n) (x := y) hn (by omega) u1
    obtain ⟨f3, e3, w1, w2, w3⟩ := c_add4 (n := n) (x := z) hn (by omega) v1
    obtain ⟨m1, e4, z1, z2, z3, z4⟩ := r_add12 (n := n) (x := x) (y := y) (z := z) hn q T3
    refine ⟨nI (T + 12), f3, m1, ?_, ?_, hI.tp ⟨T + 12, by omega, w1, z1, fun i hi => ?_⟩ (fun k hk => by rw [w3 k (by omega) (by omega), v3 k (by omega) (by omega), u3 k (by omega) (by omega)]) (fun k hk => z4 k (by omega) (by omega)) (z2 3 (by omega)) (z2 33 (by omega))⟩
    · simp (disch := omega) only [ltE, bnE, bn2E, gdE, nc, nI_add, n_mul, n_sub, ib_nI, up_hit, up_miss, n_le, n_lt, n_eq, n_eq0, n_lt0, n_0le, n_0lt, n_le0, zb_0, zb_1, if_pos, if_neg, ↓reduceIte, Nat.reduceAdd, Nat.reduceMul, Nat.reduceSub, T2, q, e1, e2, e3, w1, Nat.add_assoc]
    · simp (disch := omega) only [ltE, bnE, bn2E, gdE, nc, nI_add, n_mul, n_sub, ib_nI, up_hit, up_miss, n_le, n_lt, n_eq, n_eq0, n_lt0, n_0le, n_0lt, n_le0, zb_0, zb_1, if_pos, if_neg, ↓reduceIte, Nat.reduceAdd, Nat.reduceMul, Nat.reduceSub, T3, q, e4]
    · rw [w2, v2, u2, z3]
      by_cases c0 : i < T
      · rw [if_neg (by omega), if_neg (by omega), if_neg (by omega), if_neg (by omega)]
        exact T4 i c0
      · rw [if_pos (show T ≤ i ∧ i < T + 12 by omega)]
        have B : ∀ t, t < 4 → ∀ v : Int32, ∃ b, b < 256 ∧ ushr v (nI (24 - 8 * t)) &&& nI 255 = nI b ∧ shrI v (nI (24 - 8 * t)) &&& nI 255 = nI b := by
          intro t ht v
          obtain ⟨b, b1, b2⟩ := by_lt (ushr v (nI (24 - 8 * t)))
          exact ⟨b, b1, b2, by rw [← by_eq v (by omega)]; exact b2⟩
        unfold a3
        by_cases c1 : i < T + 4
        · rw [if_neg (by omega), if_neg (by omega), if_pos (by omega), if_pos (by omega), show (i - T) % 4 = i - T from by omega]
          exact B _ (by omega) x
        · by_cases c2 : i < T + 8
          · rw [if_neg (by omega), if_pos (by omega), if_neg (by omega), if_pos (by omega), show (i - T) % 4 = i - (T + 4) from by omega]
            exact B _ (by omega) y
          · rw [if_pos (by omega), if_neg (by omega), if_neg (by omega), show (i - T) % 4 = i - (T + 4 + 4) from by omega]
            exact B _ (by omega) z
  · refine ⟨-1000000003, f, m, ?_, ?_, hI⟩
    · simp (disch := omega) only [ltE, bnE, bn2E, gdE, nc, nI_add, n_mul, n_sub, ib_nI, up_hit, up_miss, n_le, n_lt, n_eq, n_eq0, n_lt0, n_0le, n_0lt, n_le0, zb_0, zb_1, if_pos, if_neg, ↓reduceIte, Nat.reduceAdd, Nat.reduceMul, Nat.reduceSub, T2, q]
    · simp (disch := omega) only [ltE, bnE, bn2E, gdE, nc, nI_add, n_mul, n_sub, ib_nI, up_hit, up_miss, n_le, n_lt, n_eq, n_eq0, n_lt0, n_0le, n_0lt, n_le0, zb_0, zb_1, if_pos, if_neg, ↓reduceIte, Nat.reduceAdd, Nat.reduceMul, Nat.reduceSub, T3, q]
/-- one more knock in both -/
theorem knock_in {N K : Nat} {f m : Mm} {v : Int32} (hI : Inv N f m) (hq : f 1 13 = nI K) (hK : K < 60) (hv : hOK v) : Inv N (up (up f 17 K v) 1 13 (nI (K + 1))) (up (up m 108 (251 + K) v) 108 10 (nI (K + 1))) := by
  have hI' := hI
  obtain ⟨hN, ⟨h0, nC, nw, ns, nk, ny, no, nt, h1, h2, h3, h4, h5, h6, h7⟩, hO⟩ := hI
  obtain ⟨g1, g2, g3, g4⟩ := h4
  have : nk = K := by
    have e := g2.symm.trans hq
    rwa [n_eq (by omega) (by omega)] at e
  subst this
  refine hI'.w ?_ (fun k hk => by (simp (disch := omega) only [up_rn])) (lwSame.of (fun k hk => by (simp (disch := omega) only [up_rn]))) (fun k k1 _ _ _ _ _ => by (simp (disch := omega) only [up_rn])) (by (simp (disch := omega) only [up_miss]))
  refine putKn (nk' := nk + 1) h0 h1 h2 h3 h5 h6 h7 ⟨by omega, up_hit, up_hit, fun i hi => ?_⟩ (fun j hj => by (simp (disch := omega) only [up_miss])) (fun k k1 k2 k3 => by (simp (disch := omega) only [up_rn])) (fun i hi => by (simp (disch := omega) only [up_miss])) (lwSame.of (fun k hk => by (simp (disch := omega) only [up_rn])))
  by_cases w : i = nk
  · subst w
    exact ⟨by simp (disch := omega) only [ltE, bnE, bn2E, gdE, nc, nI_add, n_mul, n_sub, ib_nI, up_hit, up_miss, n_le, n_lt, n_eq, n_eq0, n_lt0, n_0le, n_0lt, n_le0, zb_0, zb_1, if_pos, if_neg, ↓reduceIte, Nat.reduceAdd, Nat.reduceMul, Nat.reduceSub], by simp (disch := omega) only [ltE, bnE, bn2E, gdE, nc, nI_add, n_mul, n_sub, ib_nI, up_hit, up_miss, n_le, n_lt, n_eq, n_eq0, n_lt0, n_0le, n_0lt, n_le0, zb_0, zb_1, if_pos, if_neg, ↓reduceIte, Nat.reduceAdd, Nat.reduceMul, Nat.reduceSub]; exact hv⟩
  · have s3 : f 17 i = m 108 (251 + i) := (g4 i (by omega)).1
    exact ⟨by simp (disch := omega) only [ltE, bnE, bn2E, gdE, nc, nI_add, n_mul, n_sub, ib_nI, up_hit, up_miss, n_le, n_lt, n_eq, n_eq0, n_lt0, n_0le, n_0lt, n_le0, zb_0, zb_1, if_pos, if_neg, ↓reduceIte, Nat.reduceAdd, Nat.reduceMul, Nat.reduceSub, s3], by simp (disch := omega) only [ltE, bnE, bn2E, gdE, nc, nI_add, n_mul, n_sub, ib_nI, up_hit, up_miss, n_le, n_lt, n_eq, n_eq0, n_lt0, n_0le, n_0lt, n_le0, zb_0, zb_1, if_pos, if_neg, ↓reduceIte, Nat.reduceAdd, Nat.reduceMul, Nat.reduceSub]; exact (g4 i (by omega)).2⟩
theorem pourN {j M : Nat} {f m : Mm} (hn : 2000 ≤ n) (hj : j < 4) (hM : M ≤ 24) (k2 : f (74 + 2 * j) 1 = nI M) (k3 : m 122 j = nI M) (q3 : ∀ k, k < 24 → f (75 + 2 * j) k = m 123 (24 * j + k)) :
    ∃ k, k ≤ M ∧ fX11_heightsAhead n (74 + 2 * j) f = some (nI k) ∧ fX12_pour_25L n n (nI j) (nI 0) m = fX12_pour_64 n (nI j) (nI k) m ∧ ∀ t, t < k → hOK (m 123 (24 * j + t)) := by
  have e75 : 74 + 2 * j + 1 = 75 + 2 * j := by omega
  have key : ∀ q i, i ≤ M → M - i < q → (∀ t, t < i → hOK (m 123 (24 * j + t))) → ∃ k, k ≤ M ∧ fX11_heightsAhead_2L n (74 + 2 * j) q (nI i) f = some (nI k) ∧ fX12_pour_25L n q (nI j) (nI i) m = fX12_pour_64 n (nI j) (nI k) m ∧ ∀ t, t < k → hOK (m 123 (24 * j + t)) := by
    intro q
    induction q with
    | zero => intro i h1 h2; omega
    | succ q ih =>
      intro i h1 h2 h3
      have cF : fX11_heightsAhead_2L n (74 + 2 * j) (q + 1) (nI i) f = fX11_heightsAhead_2 n (74 + 2 * j) (fX11_heightsAhead_2L n (74 + 2 * j) q) (nI i) f := rfl
      have cK : fX12_pour_25L n (q + 1) (nI j) (nI i) m = fX12_pour_25 n (fX12_pour_25L n q) (nI j) (nI i) m := rfl
      rw [cF, cK]
      unfold fX11_heightsAhead_2 fX12_pour_25
      by_cases e : i = M
      · subst e
        exact ⟨i, by omega, by simp (disch := omega) only [ltE, bnE, bn2E, gdE, nc, nI_add, n_mul, n_sub, ib_nI, up_hit, up_miss, n_le, n_lt, n_eq, n_eq0, n_lt0, n_0le, n_0lt, n_le0, zb_0, zb_1, if_pos, if_neg, ↓reduceIte, Nat.reduceAdd, Nat.reduceMul, Nat.reduceSub, k2, Nat.le_refl], by simp (disch := omega) only [ltE, bnE, bn2E, gdE, nc, nI_add, n_mul, n_sub, ib_nI, up_hit, up_miss, n_le, n_lt, n_eq, n_eq0, n_lt0, n_0le, n_0lt, n_le0, zb_0, zb_1, if_pos, if_neg, ↓reduceIte, Nat.reduceAdd, Nat.reduceMul, Nat.reduceSub, k3, Nat.le_refl], h3⟩
      · have ki : ¬ M ≤ i := by omega
        have e3 := q3 i (by omega)
        cases hb : inB (m 123 (24 * j + i)) (-999) (nI 999)
        · exact ⟨i, h1, by simp (disch := omega) only [ltE, bnE, bn2E, gdE, nc, nI_add, n_mul, n_sub, ib_nI, up_hit, up_miss, n_le, n_lt, n_eq, n_eq0, n_lt0, n_0le, n_0lt, n_le0, zb_0, zb_1, if_pos, if_neg, ↓reduceIte, Nat.reduceAdd, Nat.reduceMul, Nat.reduceSub, k2, ki, e75, e3, c_isHeight, bI_ite, hb, cond_false], by simp (disch := omega) only [ltE, bnE, bn2E, gdE, nc, nI_add, n_mul, n_sub, ib_nI, up_hit, up_miss, n_le, n_lt, n_eq, n_eq0, n_lt0, n_0le, n_0lt, n_le0, zb_0, zb_1, if_pos, if_neg, ↓reduceIte, Nat.reduceAdd, Nat.reduceMul, Nat.reduceSub, k3, ki, r_inB, bI_ite, hb, cond_false], h3⟩
        · obtain ⟨k, z1, z2, z3, z4⟩ := ih (i + 1) (by omega) (by omega) (fun t ht => by
            by_cases w : t = i
            · subst w; exact hOK_of hb
            · exact h3 t (by omega))
          exact ⟨k, z1, by simp (disch := omega) only [ltE, bnE, bn2E, gdE, nc, nI_add, n_mul, n_sub, ib_nI, up_hit, up_miss, n_le, n_lt, n_eq, n_eq0, n_lt0, n_0le, n_0lt, n_le0, zb_0, zb_1, if_pos, if_neg, ↓reduceIte, Nat.reduceAdd, Nat.reduceMul, Nat.reduceSub, k2, ki, e75, e3, c_isHeight, bI_ite, hb, cond_true, z2], by simp (disch := omega) only [ltE, bnE, bn2E, gdE, nc, nI_add, n_mul, n_sub, ib_nI, up_hit, up_miss, n_le, n_lt, n_eq, n_eq0, n_lt0, n_0le, n_0lt, n_le0, zb_0, zb_1, if_pos, if_neg, ↓reduceIte, Nat.reduceAdd, Nat.reduceMul, Nat.reduceSub, k3, ki, r_inB, bI_ite, hb, cond_true, z3], z4⟩
  exact key n 0 (by omega) (by omega) (fun t ht => by omega)
theorem s_pour (hn : 2000 ≤ n) : SP_pour Inv n := by
  intro N f m a1 hI
  have hS := hI.2.2.2.1
  have hk4 : ∃ K, K ≤ 60 ∧ f 1 13 = nI K ∧ m 108 10 = nI K := by
    obtain ⟨hN, ⟨h0, nC, nw, ns, nk, ny, no, nt, h1, h2, h3, h4, h5, h6, h7⟩, hO⟩ := hI
    exact ⟨nk, h4.1, h4.2.1, h4.2.2.1⟩
  obtain ⟨K, K1, K2, K3⟩ := hk4
  unfold fX11_pour fX12_pour
  simp only [bnE, c_isSheet, r_isSheet, bI_ite]
  cases hb : inB a1 (nI 0) (nI 3)
  · exact ⟨_, f, m, rfl, rfl, hI⟩
  obtain ⟨j, _, j1, rfl⟩ := inB_r (by omega) (by omega) hb
  obtain ⟨q1, ⟨M, k1, k2, k3⟩, q3⟩ := hS j (by omega)
  have e75 : 74 + 2 * j + 1 = 75 + 2 * j := by omega
  simp (disch := omega) only [bnE, gdE, nc, ib_nI, Nat.reduceAdd, cond_true, c_isMissing, bI_ite]
  rcases q1 with ⟨x1, x2⟩ | ⟨s, s1, x1, x2⟩
  · refine ⟨-1000000011, f, m, ?_, ?_, hI⟩
    · simp only [x1, decide_true, cond_true]
    · simp only [x2, m1_le, if_false]
  have ns : ¬ nI s = -1 := fun e => (m1_nI (show s < 1000 by omega)).mp e.symm
  obtain ⟨k, z1, z2, z3, z4⟩ := pourN (n := n) hn (by omega) k1 k2 k3 q3
  simp (disch := omega) only [x1, x2, ns, decide_false, cond_false, n_0le, if_true, z2, bnE, z3, K2, nI_add, fX12_pour_64, nc, K3, n_le]
  by_cases q : K + k ≤ 60
  · simp only [q, if_true]
    have L := loopSim (fun q i (s : Mm) => fX11_pour_53L n q (74 + 2 * j) (nI k) (nI i) s) (fun q i (s : Mm) => fX12_pour_83L n q (nI j) (nI k) (nI i) s) k
      (fun i s t => Inv N s t ∧ s 1 13 = nI (K + i) ∧ t 108 10 = nI (K + i) ∧ s (75 + 2 * j) = f (75 + 2 * j) ∧ t 123 = m 123) (fun r p => r.1 = p.1 ∧ Inv N r.2 p.2) ?_ ?_ n 0 f m (by omega) (by omega) ⟨hI, K2, K3, rfl, rfl⟩
    · obtain ⟨⟨r, f1⟩, ⟨p, m1⟩, e1, e2, e3, h1⟩ := L
      have e3 : r = p := e3
      subst e3
      exact ⟨r, f1, m1, e1, e2, h1⟩
    · rintro q s t ⟨w1, w2, w3, w4, w5⟩
      exact ⟨(nI k, s), (nI k, t), by simp (disch := omega) only [ltE, bnE, bn2E, gdE, nc, nI_add, n_mul, n_sub, ib_nI, up_hit, up_miss, n_le, n_lt, n_eq, n_eq0, n_lt0, n_0le, n_0lt, n_le0, zb_0, zb_1, if_pos, if_neg, ↓reduceIte, Nat.reduceAdd, Nat.reduceMul, Nat.reduceSub, fX11_pour_53, fX11_pour_53L, Nat.le_refl], by simp (disch := omega) only [ltE, bnE, bn2E, gdE, nc, nI_add, n_mul, n_sub, ib_nI, up_hit, up_miss, n_le, n_lt, n_eq, n_eq0, n_lt0, n_0le, n_0lt, n_le0, zb_0, zb_1, if_pos, if_neg, ↓reduceIte, Nat.reduceAdd, Nat.reduceMul, Nat.reduceSub, fX12_pour_83, fX12_pour_83L, fX12_pour_64, fX12_pour_25, fX12_pour_25L, Nat.le_refl], rfl, w1⟩
    · rintro q i s t hi ⟨w1, w2, w3, w4, w5⟩
      have ki : ¬ k ≤ i := by omega
      have e3 := q3 i (by omega)
      refine Or.inr ⟨_, _, ?_, ?_, knock_in (v := m 123 (24 * j + i)) w1 w2 (by omega) (z4 i hi), up_hit, up_hit, by rw [up_rn (by omega), up_rn (by omega)]; exact w4, by rw [up_rn (by omega), up_rn (by omega)]; exact w5⟩
      · simp (disch := omega) only [ltE, bnE, bn2E, gdE, nc, nI_add, n_mul, n_sub, ib_nI, up_hit, up_miss, n_le, n_lt, n_eq, n_eq0, n_lt0, n_0le, n_0lt, n_le0, zb_0, zb_1, if_pos, if_neg, ↓reduceIte, Nat.reduceAdd, Nat.reduceMul, Nat.reduceSub, fX11_pour_53, fX11_pour_53L, ki, e75, w4, e3, fX10_addKnock, w2, show K + i < 60 from by omega]
      · simp (disch := omega) only [ltE, bnE, bn2E, gdE, nc, nI_add, n_mul, n_sub, ib_nI, up_hit, up_miss, n_le, n_lt, n_eq, n_eq0, n_lt0, n_0le, n_0lt, n_le0, zb_0, zb_1, if_pos, if_neg, ↓reduceIte, Nat.reduceAdd, Nat.reduceMul, Nat.reduceSub, fX12_pour_83, fX12_pour_83L, fX12_pour_64, fX12_pour_25, fX12_pour_25L, ki, w3, w5]
  · simp only [q, if_false]
    exact ⟨_, f, m, rfl, rfl, hI⟩
end WF
