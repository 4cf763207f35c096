/-! rows copied from sheet to sheet; slots laid -/
theorem cpG {m : Mm} {a b x z y i : Nat} (hx : x < 1000) (hz : z < 1000) (hy : y < 1000) : cpR m a b (nI x) (nI z) (nI y) b i = if z ≤ i ∧ i < z + y then m a (x + (i - z)) else m b i := by
  unfold cpR upR
  rw [if_pos rfl, nc (by omega), nc (by omega), nc (by omega)]
  by_cases h : z ≤ i ∧ i < z + y
  · rw [pk_cpy_in h.1 h.2, if_pos h]
  · rw [pk_cpy_out (by omega), if_neg h]
theorem subI {M y : Nat} (hM : M ≤ 1000) (hy : y < 2147483648) : (nI M - nI y).toInt = (M : Int) - y := by
  have h1 : (nI M).toInt = M := nI_toInt (by omega)
  have h2 : (nI y).toInt = y := nI_toInt hy
  rw [sub_in] <;> omega
theorem sub_lt {M x y : Nat} (hM : M ≤ 1000) (hx : x < 2147483648) (hy : y < 2147483648) : (nI M - nI y < nI x) = (M < x + y) := by
  rw [Int32.lt_iff_toInt_lt, subI hM hy, nI_toInt hx]
  exact propext ⟨fun h => by omega, fun h => by omega⟩
theorem le_sub {M x y : Nat} (hM : M ≤ 1000) (hx : x < 2147483648) (hy : y < 2147483648) : (nI x ≤ nI M - nI y) = (x + y ≤ M) := by
  rw [Int32.le_iff_toInt_le, subI hM hy, nI_toInt hx]
  exact propext ⟨fun h => by omega, fun h => by omega⟩
def rowB (a b : Int32) (M : Nat) : Bool := decide (¬ a < 0) && decide (¬ b < 0) && decide (a.toNatClampNeg + b.toNatClampNeg ≤ M)
theorem rowB_iff {a b : Int32} {M : Nat} (hM : M ≤ 24) : rowB a b M = true ↔ ∃ x y, a = nI x ∧ b = nI y ∧ x + y ≤ M := by
  unfold rowB
  rw [Bool.and_eq_true, Bool.and_eq_true, decide_eq_true_eq, decide_eq_true_eq, decide_eq_true_eq]
  constructor
  · rintro ⟨⟨h1, h2⟩, h3⟩
    obtain ⟨x, hx, rfl⟩ := nI_of h1
    obtain ⟨y, hy, rfl⟩ := nI_of h2
    rw [nc hx, nc hy] at h3
    exact ⟨x, y, rfl, rfl, h3⟩
  · rintro ⟨x, y, rfl, rfl, h⟩
    refine ⟨⟨fun q => nI_pos (by omega) q, fun q => nI_pos (by omega) q⟩, ?_⟩
    rw [nc (by omega), nc (by omega)]; exact h
theorem rowB_f {a b : Int32} {M : Nat} (hM : M ≤ 24) (h : ¬ ∃ x y, a = nI x ∧ b = nI y ∧ x + y ≤ M) : rowB a b M = false := by
  cases e : rowB a b M
  · rfl
  · exact absurd ((rowB_iff hM).mp e) h
section WY
variable {n : Nat}
theorem c_hasRow {r M : Nat} {a b : Int32} {f : Mm} (hM : M ≤ 24) (e : f r 1 = nI M) : fX5_hasRow n r a b f = some (bI (rowB a b M)) := by
  unfold fX5_hasRow
  rw [e]
  by_cases q1 : a < 0
  · rw [if_pos q1, rowB_f hM (by rintro ⟨x, y, rfl, rfl, h⟩; exact nI_pos (by omega) q1)]; rfl
  obtain ⟨x, hx, rfl⟩ := nI_of q1
  rw [if_neg q1]
  by_cases q2 : b < 0
  · have z : ¬ ∃ x' y', nI x = nI x' ∧ b = nI y' ∧ x' + y' ≤ M := by rintro ⟨x', y', e1, rfl, h⟩; exact nI_pos (by omega) q2
    rw [rowB_f hM z, if_pos q2]
    split <;> rfl
  obtain ⟨y, hy, rfl⟩ := nI_of q2
  rw [if_neg q2]
  simp only [sub_lt (show M ≤ 1000 by omega) hy hx, n_lt (show M < 2147483648 by omega) hx]
  by_cases q3 : x + y ≤ M
  · rw [if_neg (by omega), if_neg (by omega), (rowB_iff hM).mpr ⟨x, y, rfl, rfl, q3⟩]; rfl
  · have z : ¬ ∃ x' y', nI x = nI x' ∧ nI y = nI y' ∧ x' + y' ≤ M := by
      rintro ⟨x', y', e1, e2, h⟩
      rw [n_eq hx (by omega)] at e1
      rw [n_eq hy (by omega)] at e2
      omega
    rw [rowB_f hM z]
    split
    · rfl
    · rw [if_pos (by omega)]; rfl
theorem r_moveIn {j x z y t : Nat} {m : Mm} (hn : 2000 ≤ n) (hj : j < 4) (hx : x + y ≤ 24) : ∃ m', fX12_copy_105L n n (nI j) (nI x) (nI t) (nI z) (nI y) (nI 0) m = fX12_copy_142L n n (nI t) (nI z) (nI y) (nI 0) m' ∧ (∀ i, i < y → m' 128 i = m 123 (24 * j + x + i)) ∧ ∀ k, k ≠ 128 → m' k = m k := by
  have key : ∀ q i s, i ≤ y → y - i < q → ((∀ t, t < i → s 128 t = m 123 (24 * j + x + t)) ∧ ∀ k, k ≠ 128 → s k = m k) → ∃ m', fX12_copy_105L n q (nI j) (nI x) (nI t) (nI z) (nI y) (nI i) s = fX12_copy_142L n n (nI t) (nI z) (nI y) (nI 0) m' ∧ (∀ i, i < y → m' 128 i = m 123 (24 * j + x + i)) ∧ ∀ k, k ≠ 128 → m' k = m k := by
    intro q
    induction q with
    | zero => intro i s h1 h2; omega
    | succ q ih =>
      intro i s h1 h2 h
      by_cases e : i = y
      · subst e
        exact ⟨s, by simp (disch := omega) only [ltE, bnE, bn2E, gdE, nc, nI_add, n_mul, n_sub, ib_nI, up_hit, up_miss, n_le, n_lt, n_eq, n_eq0, n_lt0, n_0le, n_0lt, n_le0, zb_0, zb_1, if_pos, if_neg, ↓reduceIte, Nat.reduceAdd, Nat.reduceMul, Nat.reduceSub, fX12_copy_105L, fX12_copy_105, Nat.le_refl], h⟩
      · have w : fX12_copy_105L n (q + 1) (nI j) (nI x) (nI t) (nI z) (nI y) (nI i) s = fX12_copy_105L n q (nI j) (nI x) (nI t) (nI z) (nI y) (nI (i + 1)) (up s 128 i (s 123 (24 * j + x + i))) := by
          show fX12_copy_105 n (fX12_copy_105L n q) (nI j) (nI x) (nI t) (nI z) (nI y) (nI i) s = _
          unfold fX12_copy_105
          simp (disch := omega) only [ltE, bnE, bn2E, gdE, nc, nI_add, n_mul, n_sub, ib_nI, up_hit, up_miss, n_le, n_lt, n_eq, n_eq0, n_lt0, n_0le, n_0lt, n_le0, zb_0, zb_1, if_pos, if_neg, ↓reduceIte, Nat.reduceAdd, Nat.reduceMul, Nat.reduceSub, show ¬ y ≤ i from by omega]
        rw [w]
        refine ih (i + 1) _ (by omega) (by omega) ⟨fun t ht => ?_, fun k hk => by rw [up_rn hk]; exact h.2 k hk⟩
        by_cases e2 : t = i
        · subst e2; rw [up_hit, h.2 123 (by omega)]
        · rw [up_miss (Or.inr e2)]; exact h.1 t (by omega)
  exact key n 0 m (by omega) (by omega) ⟨fun t ht => by omega, fun k _ => rfl⟩
theorem r_moveOut {t z y : Nat} {m : Mm} (hn : 2000 ≤ n) (ht : t < 4) (hz : z + y ≤ 24) : ∃ m', fX12_copy_142L n n (nI t) (nI z) (nI y) (nI 0) m = some (nI y, m') ∧ (∀ i, m' 123 i = if 24 * t + z ≤ i ∧ i < 24 * t + z + y then m 128 (i - (24 * t + z)) else m 123 i) ∧ ∀ k, k ≠ 123 → m' k = m k := by
  have L := loopInv (fun q i (s : Mm) => fX12_copy_142L n q (nI t) (nI z) (nI y) (nI i) s) y (fun i s => (∀ k, s 123 k = if 24 * t + z ≤ k ∧ k < 24 * t + z + i then m 128 (k - (24 * t + z)) else m 123 k) ∧ ∀ k, k ≠ 123 → s k = m k)
    (fun r => r.1 = nI y ∧ (∀ k, r.2 123 k = if 24 * t + z ≤ k ∧ k < 24 * t + z + y then m 128 (k - (24 * t + z)) else m 123 k) ∧ ∀ k, k ≠ 123 → r.2 k = m k)
    (fun q s h => ⟨(nI y, s), by simp (disch := omega) only [ltE, bnE, bn2E, gdE, nc, nI_add, n_mul, n_sub, ib_nI, up_hit, up_miss, n_le, n_lt, n_eq, n_eq0, n_lt0, n_0le, n_0lt, n_le0, zb_0, zb_1, if_pos, if_neg, ↓reduceIte, Nat.reduceAdd, Nat.reduceMul, Nat.reduceSub, fX12_copy_142, fX12_copy_142L, fX12_copy_105, fX12_copy_105L, Nat.le_refl], rfl, h⟩) ?_ n 0 m (by omega) (by omega) ⟨fun k => by rw [if_neg (by omega)], fun k _ => rfl⟩
  · obtain ⟨⟨r, m'⟩, e, h0, h1, h2⟩ := L
    have h0 : r = nI y := h0
    subst h0
    exact ⟨m', e, h1, h2⟩
  · intro q i s hi h
    refine Or.inr ⟨up s 123 (24 * t + z + i) (s 128 i), by simp (disch := omega) only [ltE, bnE, bn2E, gdE, nc, nI_add, n_mul, n_sub, ib_nI, up_hit, up_miss, n_le, n_lt, n_eq, n_eq0, n_lt0, n_0le, n_0lt, n_le0, zb_0, zb_1, if_pos, if_neg, ↓reduceIte, Nat.reduceAdd, Nat.reduceMul, Nat.reduceSub, fX12_copy_142, fX12_copy_142L, fX12_copy_105, fX12_copy_105L, show ¬ y ≤ i from by omega], fun k => ?_, fun k hk => by rw [up_rn hk]; exact h.2 k hk⟩
    by_cases q : k = 24 * t + z + i
    · subst q
      rw [up_hit, if_pos (by omega), h.2 128 (by omega)]; congr 1; omega
    · rw [up_miss (Or.inr q), h.1 k]
      by_cases w : 24 * t + z ≤ k ∧ k < 24 * t + z + i
      · rw [if_pos w, if_pos (by omega)]
      · rw [if_neg w, if_neg (by omega)]
theorem s_copy (hn : 2000 ≤ n) : SP_copy Inv n := by
  intro N f m a1 a2 a3 a4 a5 hI
  have hS := hI.2.2.2.1
  unfold fX11_copy fX12_copy
  simp only [bnE, c_isSheet, r_isSheet, bI_ite]
  cases hb : inB a1 (nI 0) (nI 3)
  · exact ⟨_, f, m, rfl, rfl, hI⟩
  cases hb2 : inB a3 (nI 0) (nI 3)
  · exact ⟨_, f, m, rfl, rfl, hI⟩
  obtain ⟨j, _, j1, rfl⟩ := inB_r (by omega) (by omega) hb
  obtain ⟨t, _, t1, rfl⟩ := inB_r (by omega) (by omega) hb2
  obtain ⟨q1, ⟨M1, k1, k2, k3⟩, q3⟩ := hS j (by omega)
  obtain ⟨p1, ⟨M3, l1, l2, l3⟩, p3⟩ := hS t (by omega)
  have e75 : 74 + 2 * j + 1 = 75 + 2 * j := by omega
  have e76 : 74 + 2 * t + 1 = 75 + 2 * t := by omega
  simp (disch := omega) only [bnE, gdE, nc, ib_nI, Nat.reduceAdd, cond_true, c_isMissing, bI_ite, c_hasRow k1 k2, c_hasRow l1 l2, k3, l3]
  rcases q1 with ⟨x1, x2⟩ | ⟨s, s1, x1, x2⟩
  · refine ⟨-1000000011, f, m, ?_, ?_, hI⟩
    · simp only [x1, decide_true, cond_true]
    · simp only [x2, m1_lt0, if_true]
  have ns : ¬ nI s = -1 := fun e => (m1_nI (show s < 1000 by omega)).mp e.symm
  rcases p1 with ⟨y1, y2⟩ | ⟨s', s1', y1, y2⟩
  · refine ⟨-1000000011, f, m, ?_, ?_, hI⟩
    · simp only [x1, y1, ns, decide_true, decide_false, cond_true, cond_false]
    · simp (disch := omega) only [x2, y2, m1_le, n_lt0, if_false]
  have ns' : ¬ nI s' = -1 := fun e => (m1_nI (show s' < 1000 by omega)).mp e.symm
  simp (disch := omega) only [x1, x2, y1, y2, ns, ns', decide_false, cond_false, n_eq, n_lt0, n_0le, if_true, if_false]
  by_cases q : s = s'
  · simp only [q, if_true]
    by_cases z : ∃ x w y, a2 = nI x ∧ a4 = nI w ∧ a5 = nI y ∧ x + y ≤ M1 ∧ w + y ≤ M3
    · obtain ⟨x, w, y, rfl, rfl, rfl, z1, z2⟩ := z
      rw [(rowB_iff k1).mpr ⟨x, y, rfl, rfl, z1⟩, (rowB_iff l1).mpr ⟨w, y, rfl, rfl, z2⟩]
      obtain ⟨m1, e1, u1, u2⟩ := r_moveIn (n := n) (j := j) (x := x) (z := w) (y := y) (t := t) (m := m) hn (by omega) (by omega)
      obtain ⟨m2, e2, v1, v2⟩ := r_moveOut (n := n) (t := t) (z := w) (y := y) (m := m1) hn (by omega) (by omega)
      refine ⟨nI y, cpR f (75 + 2 * j) (75 + 2 * t) (nI x) (nI w) (nI y), m2, ?_, ?_, ?_⟩
      · simp (disch := omega) only [ltE, bnE, bn2E, gdE, nc, nI_add, n_mul, n_sub, ib_nI, up_hit, up_miss, n_le, n_lt, n_eq, n_eq0, n_lt0, n_0le, n_0lt, n_le0, zb_0, zb_1, if_pos, if_neg, ↓reduceIte, Nat.reduceAdd, Nat.reduceMul, Nat.reduceSub, cond_true, e75, e76, acS]
      · simp (disch := omega) only [ltE, bnE, bn2E, gdE, nc, nI_add, n_mul, n_sub, ib_nI, up_hit, up_miss, n_le, n_lt, n_eq, n_eq0, n_lt0, n_0le, n_0lt, n_le0, zb_0, zb_1, if_pos, if_neg, ↓reduceIte, Nat.reduceAdd, Nat.reduceMul, Nat.reduceSub, sub_lt, le_sub, show ¬ M1 < x + y from by omega, z2, e1, e2]
      · refine hI.sh (fun i hi => ?_) (hI.2.2.2.2.1.cg (fun k a b => cp_rn (by omega)) (fun k a b => (v2 k (by omega)).trans (u2 k (by omega)))) (fun k hk => cp_rn (by omega)) (fun k hk => (v2 k (by omega)).trans (u2 k (by omega)))
        rw [cp_rn (show 74 + 2 * i ≠ 75 + 2 * t by omega), (v2 121 (by omega)).trans (u2 121 (by omega)), (v2 122 (by omega)).trans (u2 122 (by omega))]
        obtain ⟨o1, o2, o3⟩ := hS i hi
        refine ⟨o1, o2, fun k hk => ?_⟩
        rw [v1]
        by_cases e : i = t
        · subst e
          rw [cpG (by omega) (by omega) (by omega)]
          by_cases e2 : w ≤ k ∧ k < w + y
          · rw [if_pos e2, if_pos (by omega), u1 _ (by omega), q3 _ (by omega)]
            congr 1; omega
          · rw [if_neg e2, if_neg (by omega), u2 123 (by omega)]; exact o3 k hk
        · rw [cp_rn (by omega), if_neg (by omega), u2 123 (by omega)]; exact o3 k hk
    · have F : (bif rowB a2 a5 M1 then (bif rowB a4 a5 M3 then (1 : Nat) else 0) else 0) = 0 := by
        by_cases z1 : ∃ x y, a2 = nI x ∧ a5 = nI y ∧ x + y ≤ M1
        · by_cases z2 : ∃ x y, a4 = nI x ∧ a5 = nI y ∧ x + y ≤ M3
          · obtain ⟨x, y, rfl, rfl, b1⟩ := z1
            obtain ⟨w, y', rfl, b2, b3⟩ := z2
            rw [n_eq (by omega) (by omega)] at b2
            subst b2
            exact absurd ⟨x, w, y, rfl, rfl, rfl, b1, b3⟩ z
          · rw [rowB_f l1 z2]; cases rowB a2 a5 M1 <;> rfl
        · rw [rowB_f k1 z1]; rfl
      refine ⟨-1000000013, f, m, ?_, ?_, hI⟩
      · by_cases z1 : ∃ x y, a2 = nI x ∧ a5 = nI y ∧ x + y ≤ M1
        · by_cases z2 : ∃ x y, a4 = nI x ∧ a5 = nI y ∧ x + y ≤ M3
          · rw [(rowB_iff k1).mpr z1, (rowB_iff l1).mpr z2] at F
            exact absurd F (by decide)
          · rw [rowB_f l1 z2]; cases rowB a2 a5 M1 <;> rfl
        · rw [rowB_f k1 z1]; rfl
      · by_cases w1 : a2 < 0
        · rw [if_pos w1]
        rw [if_neg w1]
        by_cases w2 : a4 < 0
        · rw [if_pos w2]
        rw [if_neg w2]
        by_cases w3 : a5 < 0
        · rw [if_pos w3]
        rw [if_neg w3]
        obtain ⟨x, hx, rfl⟩ := nI_of w1
        obtain ⟨w, hw, rfl⟩ := nI_of w2
        obtain ⟨y, hy, rfl⟩ := nI_of w3
        simp only [sub_lt (show M1 ≤ 1000 by omega) hx hy, le_sub (show M3 ≤ 1000 by omega) hw hy]
        by_cases w4 : M1 < x + y
        · rw [if_pos w4]
        rw [if_neg w4]
        by_cases w5 : w + y ≤ M3
        · exact absurd ⟨x, w, y, rfl, rfl, rfl, by omega, w5⟩ z
        · rw [if_neg w5]
  · simp only [q, if_false]
    exact ⟨_, f, m, rfl, rfl, hI⟩
end WY
